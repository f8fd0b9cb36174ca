/-! the reference reads a rule -/
theorem GOr_m {n : Nat} {b : Nat → Nat} {x q c B : Nat} {a : rRes} {g g1 : zH} (G : GOr n b x q c 0 B a g g1) (hB : B = n + 8) : (a.2.1 = -1 → GOk n b x c 0 a g1) ∧ (a.2.1 ≠ -1 → GOb n b x q c (n + 8) a.2.1 g1) := by
  rw [hB] at G
  exact ⟨G.2.1, G.2.2⟩
/-- from behind the colon on -/
theorem c128M {n : Nat} {b : Nat → Nat} (T : TV n b) {N : Nat} (hN : 300 ≤ N) {x q c j : Nat} (hx : x < 5) (hj : j < 140) {g0 g1 : zH} (hq : q ≤ n) (hcq : c ≤ q) (K : GKc x c j g0 g1) (h54 : g1 54 (140 * x + j) = (c : Int)) (h53 : g1 53 x = (j : Int)) (H : GI n b x q c 0 g1) : ∃ g', fX11_clause_c128 N ((140 * x + j : Nat) : Int) (if sg n b (skp n b q) = 33 ∨ sg n b (skp n b q) = 40 then 1 else 0) g1 = some g' ∧ GKc x c j g0 g' ∧ CLm n b x c j (cQ n b (cT n b q)) g' := by
  have n240 := T.1
  obtain ⟨hAnd, hOr, hC⟩ := condM T hN hx (Nat.le_refl 6) 25 (fun K' h => MC_UN T hN hx 6 (Nat.le_refl 6) K' (by omega))
  have hP := cT_F (b := b) hq
  unfold fX11_clause_c128
  have keep : ∀ (g2 : zH), GKp x c g1 g2 → GKc x c j g0 g2 ∧ g2 54 (140 * x + j) = (c : Int) ∧ g2 53 x = (j : Int) := fun g2 k => ⟨GKc_tr K (GKc_p k) (Nat.le_refl c), by rw [k.1 54 (by decide)]; exact h54, by rw [k.1 53 (by decide)]; exact h53⟩
  by_cases c1 : sg n b (skp n b q) = 33 ∨ sg n b (skp n b q) = 40
  · have eT : cT n b q = (true, condG n b (UN n b 6) q) := by unfold cT; rw [if_pos c1]
    rw [eT] at hP ⊢
    rw [if_pos c1, if_neg (show ¬ zw 1 = 0 by decide)]
    obtain ⟨g2, u1, u2⟩ := hC 60 (by decide) g1 q c 0 H hq hcq rfl
    have u1 : fX11_condition N g1 = some g2 := u1
    rw [u1, zb_some]
    obtain ⟨k1, k2, k3⟩ := keep g2 u2.1
    obtain ⟨m1', m2'⟩ := GOr_m u2 rfl
    exact tailM T hN hx hj (t := (true, condG n b (UN n b 6) q)) hcq hP k1 k2 k3 m1' m2'
  · rw [if_neg c1, if_pos zw_0]
    obtain ⟨g2, s1, s2⟩ := MC_SU T hN hx (Nat.le_refl 6) g1 q c 0 H hq hcq rfl
    have hS := PF_SU (b := b) 6 hq
    rw [s1, zb_some]
    by_cases c0 : (SU n b 6 q).2.1 = -1
    · have O := s2.2.1 c0
      obtain ⟨a1, a2, a3, a4, a5⟩ := hS.1 c0
      rw [O.1.2.2.1, if_pos rfl]
      obtain ⟨g3, l1, l2, l3, l4, l5⟩ := GI_look T hN O.1
      have K3 : GKp x c g1 g3 := GKp_tr s2.1 (GKp_14 l2 (FS_up l3 (by decide))) (Nat.le_refl c)
      have O3 := GOk_14 O l2 l5
      rw [l1, z2_some, isSgM (sg_w T)]
      by_cases c2 : isS (sg n b (skp n b (SU n b 6 q).1))
      · have eT : cT n b q = (true, orK n b (UN n b 6) (andK n b (UN n b 6) (cmpP n b (SU n b 6) (SU n b 6 q)))) := by unfold cT; rw [if_neg c1, if_pos ⟨c0, c2⟩]
        rw [eT] at hP ⊢
        rw [if_pos c2, if_neg (show ¬ zw 1 = 0 by decide), if_neg (show ¬ zw 1 = 0 by decide)]
        obtain ⟨g4, w1, w2⟩ := cmpM T hN hx (Nat.le_refl 6) c0 (PM_e hS) hcq (show 0 + 6 = 6 from rfl) K3 O3
        have hPc := PF_cmp (b := b) (su := SU n b 6) (fun r hr => PF_SU 6 hr) hS
        have hP1 : PF n (2 * 6 + 5) OKb q (cmpP n b (SU n b 6) (SU n b 6 q)) := PF_up hPc (by decide) (fun _ h => h) (Nat.le_refl q)
        obtain ⟨g5, y1, y2⟩ := hAnd 60 (by decide) _ q c 0 g1 g4 hP1 hcq rfl w2
        have hP2 : PF n (2 * 6 + 6) OKb q (andK n b (UN n b 6) (cmpP n b (SU n b 6) (SU n b 6 q))) := PF_up (PF_and (B := 16) (PF_UN 6) hP1) (by decide) (fun _ h => h) (Nat.le_refl q)
        obtain ⟨g6, z1, z2'⟩ := hOr 60 (by decide) _ q c 0 g1 g5 hP2 hcq rfl y2
        have y1 : fX11_goOnAnd N g4 = some g5 := y1
        have z1 : fX11_goOnOr N g5 = some g6 := z1
        rw [w1, zb_some, y1, zb_some, z1, zb_some]
        obtain ⟨k1, k2, k3⟩ := keep g6 z2'.1
        obtain ⟨m1', m2'⟩ := GOr_m z2' rfl
        exact tailM T hN hx hj (t := (true, _)) hcq hP k1 k2 k3 m1' m2'
      · have eT : cT n b q = (false, SU n b 6 q) := by unfold cT; rw [if_neg c1, if_neg (fun h => c2 h.2)]
        rw [eT] at hP ⊢
        rw [if_neg c2, if_pos zw_0, if_pos zw_0]
        obtain ⟨k1, k2, k3⟩ := keep g3 K3
        exact tailM T hN hx hj (t := (false, SU n b 6 q)) hcq hP k1 k2 k3 (fun _ => O3) (fun h => absurd c0 h)
    · have eT : cT n b q = (false, SU n b 6 q) := by unfold cT; rw [if_neg c1, if_neg (fun h => c0 h.1)]
      rw [eT] at hP ⊢
      have hb := hS.2 c0
      obtain ⟨m1', m2'⟩ := GOr_m s2 rfl
      rw [(m2' c0).1, zw_m1, zw_id (show -2147483648 ≤ (SU n b 6 q).2.1 ∧ (SU n b 6 q).2.1 < 2147483648 by omega), if_neg c0, if_pos zw_0]
      obtain ⟨k1, k2, k3⟩ := keep g2 s2.1
      exact tailM T hN hx hj (t := (false, SU n b 6 q)) hcq hP k1 k2 k3 m1' m2'
theorem GKc_14 {x c j : Nat} {g g' : zH} (F : FR [14] g g') (G : FS 14 [3, 4, 5] g g') : GKc x c j g g' := GKc_p (GKp_14 F G)
theorem zs14_K {x c j k : Nat} {g : zH} {v : Int} (hk : k = 3 ∨ k = 4 ∨ k = 5) : GKc x c j g (zs g 14 k v) := GKc_14 (fun b hb => zs_row_ne (fun e => hb (by rw [e]; decide))) (fun q hq => zs_ne (fun e => hq (by rw [e]; rcases hk with h | h | h <;> (rw [h]; decide))))
/-- a whole clause -/
theorem clauRM {n : Nat} {b : Nat → Nat} (T : TV n b) {N : Nat} (hN : 300 ≤ N) {x p c j : Nat} (hx : x < 5) (hj : j < 140) {g : zH} (hcp : c ≤ p) (h53 : g 53 x = (j : Int)) (H : GI n b x p c 0 g) : ∃ g', fX11_clause N g = some g' ∧ GKc x c j g g' ∧ CLm n b x c j (clP n b p) g' := by
  have n240 := T.1
  have hp := GI_sk H
  have sk := skp_b (b := b) hp
  obtain ⟨g1, l1, l2, l3, l4, l5⟩ := GI_look T hN H
  unfold fX11_clause
  rw [H.2.2.2.2.1, zw_id (show -2147483648 ≤ (x : Int) ∧ (x : Int) < 2147483648 by omega), if_pos (by omega), Int.toNat_natCast, h53, show (140 * (x : Int)) + (j : Int) = ((140 * x + j : Nat) : Int) by omega, zlet_v, H.2.2.1, if_pos rfl, l1, z2_some, sg_w T, show zw 121 = 121 by decide]
  have K1 : GKc x c j g g1 := GKc_14 l2 (FS_up l3 (by decide))
  -- a fault is passed on
  have bad1 : ∀ (h : zH) (f : Int), h 14 4 = f → f ≠ -1 → -1 ≤ f ∧ f ≤ 1000 → fX11_clause_c71 N ((140 * x + j : Nat) : Int) h = some (zs h 14 3 (h 14 3 + 1)) := fun h f e hf hb => by
    unfold fX11_clause_c71
    rw [zlet_v, zs_ne (show (4 : Nat) ≠ 3 by decide), e, zw_m1, zw_id (show -2147483648 ≤ f ∧ f < 2147483648 by omega), if_neg hf]
  unfold clP
  by_cases c121 : sg n b (skp n b p) = 121
  · have hlt : skp n b p < n := sg_lt (b := b) (by rw [c121]; decide)
    rw [if_pos c121, if_pos c121]
    unfold fX11_clause_c40
    have G2 := GI_on l5 l4 (by omega)
    obtain ⟨g2, eg2⟩ : ∃ g2, g2 = zs g1 14 3 (g1 14 3 + 1) := ⟨_, rfl⟩
    rw [← eg2] at G2
    rw [zlet_v, ← eg2]
    have K2 : GKc x c j g g2 := by rw [eg2]; exact GKc_tr K1 (zs14_K (Or.inl rfl)) (Nat.le_refl c)
    obtain ⟨g3, m1', m2', m3', m4', m5'⟩ := GI_look T hN G2
    have sk2 := skp_b (b := b) (show skp n b p + 1 ≤ n by omega)
    have K3 : GKc x c j g g3 := GKc_tr K2 (GKc_14 m2' (FS_up m3' (by decide))) (Nat.le_refl c)
    rw [G2.2.2.1, if_pos rfl, m1', z2_some, sg_w T, show zw 58 = 58 by decide]
    by_cases c58 : sg n b (skp n b (skp n b p + 1)) = 58
    · have hlt2 : skp n b (skp n b p + 1) < n := sg_lt (b := b) (by rw [c58]; decide)
      rw [if_pos c58, if_pos c58]
      unfold fX11_clause_c71
      have G4 := GI_on m5' m4' (by omega)
      obtain ⟨g4, eg4⟩ : ∃ g4, g4 = zs g3 14 3 (g3 14 3 + 1) := ⟨_, rfl⟩
      rw [← eg4] at G4
      rw [zlet_v, ← eg4]
      have K4 : GKc x c j g g4 := by rw [eg4]; exact GKc_tr K3 (zs14_K (Or.inl rfl)) (Nat.le_refl c)
      rw [G4.2.2.1, if_pos rfl, G4.2.2.2.2.1, zw_id (show -2147483648 ≤ (x : Int) ∧ (x : Int) < 2147483648 by omega), if_pos (by omega), zw_id (show -2147483648 ≤ ((140 * x + j : Nat) : Int) ∧ ((140 * x + j : Nat) : Int) < 2147483648 by omega), if_pos (by omega), Int.toNat_natCast, Int.toNat_natCast, G4.2.2.2.2.2, zlet_v]
      obtain ⟨g5, eg5⟩ : ∃ g5, g5 = zs g4 54 (140 * x + j) (c : Int) := ⟨_, rfl⟩
      rw [← eg5]
      have R5 : ∀ o, o ≠ 54 → g5 o = g4 o := fun o ho => by rw [eg5, zs_row_ne ho]
      have K5 : GKc x c j g g5 := by rw [eg5]; exact GKc_tr K4 (GKc_o (Or.inl rfl)) (Nat.le_refl c)
      have G5 : GI n b x (skp n b (skp n b p + 1) + 1) c 0 g5 := GI_o G4 (R5 14 (by decide)) (R5 49 (by decide)) (R5 52 (by decide))
      have f53 : ∀ g' : zH, FR [14] g5 g' → g' 53 x = (j : Int) := fun g' F => by
        rw [F 53 (by decide), R5 53 (by decide), eg4, zs_row_ne (by decide), m2' 53 (by decide), eg2, zs_row_ne (by decide), l2 53 (by decide)]; exact h53
      obtain ⟨g6, n1, n2, n3, n4, n5⟩ := GI_look T hN G5
      have K6 : GKc x c j g g6 := GKc_tr K5 (GKc_14 n2 (FS_up n3 (by decide))) (Nat.le_refl c)
      rw [n1, z2_some, sg_w T, show zw 33 = 33 by decide]
      by_cases c33 : sg n b (skp n b (skp n b (skp n b p + 1) + 1)) = 33
      · rw [if_pos c33]
        have := c128M T hN hx hj (g0 := g) (g1 := g6) (q := skp n b (skp n b p + 1) + 1) (by omega) (by omega) K6 (by rw [n2 54 (by decide), eg5, zs_at]) (f53 g6 n2) n5
        rw [if_pos (Or.inl c33)] at this
        exact this
      · rw [if_neg c33]
        obtain ⟨g7, o1, o2, o3, o4, o5⟩ := GI_look T hN n5
        have K7 : GKc x c j g g7 := GKc_tr K6 (GKc_14 o2 (FS_up o3 (by decide))) (Nat.le_refl c)
        have := c128M T hN hx hj (g0 := g) (g1 := g7) (q := skp n b (skp n b p + 1) + 1) (by omega) (by omega) K7 (by rw [o2 54 (by decide), n2 54 (by decide), eg5, zs_at]) (f53 g7 (FR_tr n2 o2)) o5
        rw [o1, z2_some, sg_w T, show zw 40 = 40 by decide]
        by_cases c40 : sg n b (skp n b (skp n b (skp n b p + 1) + 1)) = 40
        · rw [if_pos (Or.inr c40)] at this
          rw [if_pos c40]
          exact this
        · rw [if_neg (fun h => by rcases h with h | h; exact c33 h; exact c40 h)] at this
          rw [if_neg c40]
          exact this
    · rw [if_neg c58, if_neg c58, zlet_v]
      have e0 : fX11_bad g3 = zs g3 14 4 (skp n b (skp n b p + 1) : Int) := by rw [badM m5'.2.2.1, m4']
      rw [e0, bad1 _ (skp n b (skp n b p + 1) : Int) zs_at (by omega) (by omega)]
      refine ⟨_, rfl, GKc_tr K3 (GKc_tr (zs14_K (Or.inr (Or.inl rfl))) (zs14_K (Or.inl rfl)) (Nat.le_refl c)) (Nat.le_refl c), fun _ => ?_, fun h => absurd (show (skp n b (skp n b p + 1) : Int) = -1 from h) (by omega)⟩
      rw [zs_ne (by decide), zs_at]
  · rw [if_neg c121, if_neg c121, zlet_v]
    have e0 : fX11_bad g1 = zs g1 14 4 (skp n b p : Int) := by rw [badM l5.2.2.1, l4]
    unfold fX11_clause_c40
    rw [e0, zlet_v]
    have f4 : ∀ v, zs (zs g1 14 4 (skp n b p : Int)) 14 3 v 14 4 = (skp n b p : Int) := fun v => by rw [zs_ne (by decide), zs_at]
    rw [f4, zw_m1, zw_id (show -2147483648 ≤ (skp n b p : Int) ∧ (skp n b p : Int) < 2147483648 by omega), if_neg (by omega), bad1 _ (skp n b p : Int) (f4 _) (by omega) (by omega)]
    refine ⟨_, rfl, GKc_tr K1 (GKc_tr (zs14_K (Or.inr (Or.inl rfl))) (GKc_tr (zs14_K (Or.inl rfl)) (zs14_K (Or.inl rfl)) (Nat.le_refl c)) (Nat.le_refl c)) (Nat.le_refl c), fun _ => ?_, fun h => absurd (show (skp n b p : Int) = -1 from h) (by omega)⟩
    rw [zs_ne (by decide)]; exact f4 _
/-- what the reading of a rule leaves alone -/
def LFr (x : Nat) (g g' : zH) : Prop := FR [14, 50, 51, 52, 53, 54, 55, 56] g g' ∧ FS 14 [3, 4, 5, 14] g g' ∧ FS 52 [x] g g' ∧ FS 53 [x] g g' ∧ (∀ i, (i < 520 * x ∨ 520 * x + 520 ≤ i) → g' 50 i = g 50 i ∧ g' 51 i = g 51 i) ∧ ∀ i, (i < 140 * x ∨ 140 * x + 140 ≤ i) → g' 54 i = g 54 i ∧ g' 55 i = g 55 i ∧ g' 56 i = g 56 i
theorem LFr_tr {x : Nat} {g g1 g2 : zH} (h1 : LFr x g g1) (h2 : LFr x g1 g2) : LFr x g g2 := ⟨FR_tr h1.1 h2.1, FS_tr h1.2.1 h2.2.1, FS_tr h1.2.2.1 h2.2.2.1, FS_tr h1.2.2.2.1 h2.2.2.2.1, fun i hi => by
  obtain ⟨a1, a2⟩ := h1.2.2.2.2.1 i hi
  obtain ⟨b1, b2⟩ := h2.2.2.2.2.1 i hi
  exact ⟨b1.trans a1, b2.trans a2⟩, fun i hi => by
  obtain ⟨a1, a2, a3⟩ := h1.2.2.2.2.2 i hi
  obtain ⟨b1, b2, b3⟩ := h2.2.2.2.2.2 i hi
  exact ⟨b1.trans a1, b2.trans a2, b3.trans a3⟩⟩
theorem LFr_c {x c j : Nat} {g g' : zH} (hj : j < 140) (h : GKc x c j g g') : LFr x g g' := ⟨h.1, FS_up h.2.1 (by decide), h.2.2.1, h.2.2.2.1, fun i hi => h.2.2.2.2.1 i (by omega), fun i hi => h.2.2.2.2.2 i (by omega)⟩
/-- behind a clause that began at p -/
def CAm (n : Nat) (b : Nat → Nat) (x p : Nat) (acc : List rCl) (g0 g : zH) : Prop := LFr x g0 g ∧ ((clP n b p).2.1 ≠ -1 → g 14 4 = (clP n b p).2.1) ∧ ((clP n b p).2.1 = -1 → GI n b x (clP n b p).1 (lawL (acc ++ [(clP n b p).2.2])) 0 g ∧ g 53 x = ((acc.length + 1 : Nat) : Int) ∧ lawMo x (acc ++ [(clP n b p).2.2]) 0 0 g)
theorem CAm_1 {n : Nat} {b : Nat → Nat} (T : TV n b) {N : Nat} (hN : 300 ≤ N) {x p : Nat} (hx : x < 5) {acc : List rCl} (V : LV p acc) {g0 g : zH} (L : LFr x g0 g) (h53 : g 53 x = (acc.length : Int)) (H : GI n b x p (lawL acc) 0 g) (M : lawMo x acc 0 0 g) : ∃ g', fX11_clause N g = some g' ∧ CAm n b x p acc g0 g' := by
  have n240 := T.1
  have hp := GI_sk H
  obtain ⟨v1, v2, v3, v4⟩ := V
  obtain ⟨g', r1, r2, r3, r4⟩ := clauRM T hN hx (show acc.length < 140 by omega) v3 h53 H
  refine ⟨g', r1, LFr_tr L (LFr_c (show acc.length < 140 by omega) r2), r3, fun hf => ?_⟩
  obtain ⟨s1, s2, s3⟩ := r4 hf
  refine ⟨by rw [lawL_1]; exact s1, s2, lawMo_1 acc _ 0 0 (lawMo_keep acc 0 0 (fun i h1 h2 => r2.2.2.2.2.1 i (Or.inl (by omega))) (fun i h1 h2 => r2.2.2.2.2.2 i (by omega)) M) (by rw [Nat.zero_add, Nat.zero_add]; exact s3)⟩
theorem loopLM {n : Nat} {b : Nat → Nat} (T : TV n b) {N : Nat} (hN : 300 ≤ N) {x : Nat} (hx : x < 5) {g0 : zH} (k : Nat) : ∀ (p F : Nat) (acc : List rCl) (g : zH), p ≤ n → n < p + k → k < F → LV p acc → CAm n b x p acc g0 g → ∃ g', fX11_readLaw_c9 N F g = some ((lwP n b k p acc).1, g') ∧ LFr x g0 g' ∧ ((lwP n b k p acc).1 = -1 → g' 53 x = ((lwP n b k p acc).2.length : Int) ∧ lawMo x (lwP n b k p acc).2 0 0 g') := by
  have n240 := T.1
  induction k with
  | zero => intro p F acc g hp hk; omega
  | succ k ih =>
    intro p F acc g hp hk hF V ⟨L, cB, cO⟩
    obtain ⟨F, rfl⟩ : ∃ F', F = F' + 1 := ⟨F - 1, by omega⟩
    have hcF := clP_F (b := b) hp
    show ∃ g', fX11_readLaw_c9b N (fX11_readLaw_c9 N F) g = _ ∧ _
    unfold fX11_readLaw_c9b lwP
    by_cases c0 : (clP n b p).2.1 = -1
    · obtain ⟨f1, f2, f3, f4, f5⟩ := hcF.1 c0
      obtain ⟨o1, o2, o3⟩ := cO c0
      have V1 := LV_1 hp V c0
      have skc := skp_b (b := b) f2
      have hacc : 3 * (acc.length + 1) ≤ (clP n b p).1 := by
        have := V1.2.2.2
        rw [List.length_append, List.length_singleton] at this
        exact this
      obtain ⟨g1, l1, l2, l3, l4, l5⟩ := GI_look T hN o1
      have L1 : LFr x g0 g1 := LFr_tr L (LFr_c (j := 0) (c := 0) (by decide) (GKc_14 l2 (FS_up l3 (by decide))))
      have M1 : lawMo x (acc ++ [(clP n b p).2.2]) 0 0 g1 := lawMo_keep _ 0 0 (fun i _ _ => ⟨by rw [l2 50 (by decide)], by rw [l2 51 (by decide)]⟩) (fun i _ _ => ⟨by rw [l2 54 (by decide)], by rw [l2 55 (by decide)], by rw [l2 56 (by decide)]⟩) o3
      rw [if_pos c0, o1.2.2.1, if_pos rfl, l1, z2_some, sg_w T, show zw 59 = 59 by decide]
      by_cases c59 : sg n b (skp n b (clP n b p).1) = 59
      · have hlt : skp n b (clP n b p).1 < n := sg_lt (b := b) (by rw [c59]; decide)
        rw [if_pos c59, if_pos c59, zlet_v]
        have G2 := GI_on l5 l4 (by omega)
        obtain ⟨g2, eg2⟩ : ∃ g2, g2 = zs g1 14 3 (g1 14 3 + 1) := ⟨_, rfl⟩
        rw [← eg2] at G2 ⊢
        have L2 : LFr x g0 g2 := by rw [eg2]; exact LFr_tr L1 (LFr_c (j := 0) (c := 0) (by decide) (zs14_K (Or.inl rfl)))
        have R2 : ∀ o, o ≠ 14 → g2 o = g1 o := fun o ho => by rw [eg2, zs_row_ne ho]
        have M2 : lawMo x (acc ++ [(clP n b p).2.2]) 0 0 g2 := lawMo_keep _ 0 0 (fun i _ _ => ⟨by rw [R2 50 (by decide)], by rw [R2 51 (by decide)]⟩) (fun i _ _ => ⟨by rw [R2 54 (by decide)], by rw [R2 55 (by decide)], by rw [R2 56 (by decide)]⟩) M1
        have e53 : g2 53 x = ((acc ++ [(clP n b p).2.2]).length : Int) := by
          rw [R2 53 (by decide), l2 53 (by decide), o2, List.length_append, List.length_singleton]
        obtain ⟨g3, r1, r2⟩ := CAm_1 T hN hx (LV_up V1 (show (clP n b p).1 ≤ skp n b (clP n b p).1 + 1 by omega)) L2 e53 G2 M2
        rw [r1, zb_some]
        exact ih (skp n b (clP n b p).1 + 1) F _ g3 (by omega) (by omega) (by omega) (LV_up V1 (by omega)) r2
      · rw [if_neg c59, if_neg c59]
        unfold fX11_atEnd
        obtain ⟨g2, m1', m2', m3', m4', m5'⟩ := GI_look T hN l5
        have L2 : LFr x g0 g2 := LFr_tr L1 (LFr_c (j := 0) (c := 0) (by decide) (GKc_14 m2' (FS_up m3' (by decide))))
        rw [l5.2.2.1, if_pos rfl, m1', z2_some, sg_w T, zw_m1]
        by_cases cm : sg n b (skp n b (clP n b p).1) = -1
        · rw [if_pos cm, if_pos cm, z2_some, m5'.2.2.1]
          refine ⟨g2, rfl, L2, fun _ => ⟨?_, ?_⟩⟩
          · show g2 53 x = ((acc ++ [(clP n b p).2.2]).length : Int)
            rw [m2' 53 (by decide), l2 53 (by decide), o2, List.length_append, List.length_singleton]
          · exact lawMo_keep _ 0 0 (fun i _ _ => ⟨by rw [m2' 50 (by decide)], by rw [m2' 51 (by decide)]⟩) (fun i _ _ => ⟨by rw [m2' 54 (by decide)], by rw [m2' 55 (by decide)], by rw [m2' 56 (by decide)]⟩) M1
        · have e0 : fX11_bad g2 = zs g2 14 4 (skp n b (clP n b p).1 : Int) := by rw [badM m5'.2.2.1, m4']
          rw [if_neg cm, if_neg cm, e0, zlet_v, z2_some, zs_at]
          exact ⟨_, rfl, LFr_tr L2 (LFr_c (j := 0) (c := 0) (by decide) (zs14_K (Or.inr (Or.inl rfl)))), fun h => absurd (show (skp n b (clP n b p).1 : Int) = -1 from h) (by omega)⟩
    · have hb := hcF.2 c0
      have e4 := cB c0
      unfold fX11_atEnd
      rw [if_neg c0, e4, zw_m1, zw_id (show -2147483648 ≤ (clP n b p).2.1 ∧ (clP n b p).2.1 < 2147483648 by omega), if_neg c0, if_neg c0, z2_some]
      exact ⟨g, rfl, L, fun h => absurd h c0⟩
theorem readLM {n : Nat} {b : Nat → Nat} (T : TV n b) {N : Nat} (hN : 300 ≤ N) {x : Nat} (hx : x < 5) {g : zH} (H : TMo n b g) : ∃ g', fX11_readLaw N (x : Int) g = some ((lwR n b).1, g') ∧ LFr x g g' ∧ ((lwR n b).1 = -1 → g' 53 x = ((lwR n b).2.length : Int) ∧ lawMo x (lwR n b).2 0 0 g') := by
  have n240 := T.1
  obtain ⟨g1, eg1⟩ : ∃ g1, g1 = zs (zs (zs (zs (zs (zs g 14 14 (x : Int)) 14 3 0) 14 4 (-1)) 14 5 0) 52 x 0) 53 x 0 := ⟨_, rfl⟩
  have eo : fX11_open (x : Int) g = some g1 := by
    unfold fX11_open
    rw [zlet_v, zlet_v, zlet_v, zlet_v, zw_id (show -2147483648 ≤ (x : Int) ∧ (x : Int) < 2147483648 by omega), if_pos (by omega), Int.toNat_natCast, zlet_v, if_pos (by omega), zlet_v, eg1]
  have L1 : LFr x g g1 := by
    refine ⟨fun b hb => ?_, fun q hq => ?_, fun q hq => ?_, fun q hq => ?_, fun i _ => ⟨?_, ?_⟩, fun i _ => ⟨?_, ?_, ?_⟩⟩
    · rw [eg1]
      repeat rw [zs_row_ne (fun e => hb (by rw [e]; decide))]
    · rw [eg1, zs_row_ne (by decide), zs_row_ne (by decide)]
      repeat rw [zs_ne (fun e => hq (by rw [e]; decide))]
    · rw [eg1, zs_row_ne (by decide), zs_ne (fun e => hq (by rw [e]; exact List.mem_singleton.mpr rfl))]
      repeat rw [zs_row_ne (by decide)]
    · rw [eg1, zs_ne (fun e => hq (by rw [e]; exact List.mem_singleton.mpr rfl))]
      repeat rw [zs_row_ne (by decide)]
    all_goals (rw [eg1]; repeat rw [zs_row_ne (by decide)])
  have G1 : GI n b x 0 0 0 g1 := by
    refine ⟨TM_to H ?_ ?_, ⟨0, ?_, Nat.le_refl 0, Nat.zero_le n, rfl⟩, ?_, ?_, ?_, ?_⟩
    · rw [eg1, zs_row_ne (by decide), zs_row_ne (by decide), zs_ne (by decide), zs_ne (by decide), zs_ne (by decide), zs_ne (by decide)]
    · rw [eg1]
      repeat rw [zs_row_ne (by decide)]
    · rw [eg1, zs_row_ne (by decide), zs_row_ne (by decide), zs_ne (by decide), zs_ne (by decide), zs_at]; rfl
    · rw [eg1, zs_row_ne (by decide), zs_row_ne (by decide), zs_ne (by decide), zs_at]
    · rw [eg1, zs_row_ne (by decide), zs_row_ne (by decide), zs_at]; rfl
    · rw [eg1, zs_row_ne (by decide), zs_row_ne (by decide), zs_ne (by decide), zs_ne (by decide), zs_ne (by decide), zs_at]
    · rw [eg1, zs_row_ne (by decide), zs_at]; rfl
  have V0 : LV 0 [] := ⟨fun c hc => absurd hc List.not_mem_nil, Nat.le_refl 0, Nat.le_refl 0, Nat.le_refl 0⟩
  obtain ⟨g2, r1, r2⟩ := CAm_1 T hN hx V0 L1 (by rw [eg1, zs_at]; rfl) G1 trivial
  unfold fX11_readLaw
  rw [eo, zb_some, r1, zb_some]
  exact loopLM T hN hx (n + 1) 0 N [] g2 (Nat.zero_le n) (by omega) (by omega) V0 r2
