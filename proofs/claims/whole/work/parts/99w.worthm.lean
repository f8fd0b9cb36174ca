/-! what a rule is worth, the reference's -/
def tlC (c : rCl) : Nat := if c.1 = true then (eM c.2.1).length else 0
def lawMo (ρ : Nat) : List rCl → Nat → Nat → zH → Prop
  | [], _, _, _ => True
  | c :: cs, j, o, g => (g 54 (140 * ρ + j) = (o : Int) ∧ g 55 (140 * ρ + j) = ((o + tlC c : Nat) : Int) ∧ g 56 (140 * ρ + j) = ((o + tlC c + (eM c.2.2).length : Nat) : Int)) ∧ (c.1 = true → sgm (g 50) (520 * ρ + o) (m1 (eM c.2.1)) ∧ sgm (g 51) (520 * ρ + o) (m2 (eM c.2.1))) ∧ (sgm (g 50) (520 * ρ + (o + tlC c)) (m1 (eM c.2.2)) ∧ sgm (g 51) (520 * ρ + (o + tlC c)) (m2 (eM c.2.2))) ∧ lawMo ρ cs (j + 1) (o + tlC c + (eM c.2.2).length) g
def lawL : List rCl → Nat
  | [] => 0
  | c :: cs => tlC c + (eM c.2.2).length + lawL cs
theorem workM {N ρ a : Nat} (hN : 1000 ≤ N) {L : Nat → Int} (hL : LB L) (hρ : ρ < 5) {e : zE} (E : OKe e) (hn : eN e ≤ 48) {g : zH} (hl : ∀ j, j < 7 → g 57 j = L j) (ha : a + (eM e).length ≤ 520) (G1 : sgm (g 50) (520 * ρ + a) (m1 (eM e))) (G2 : sgm (g 51) (520 * ρ + a) (m2 (eM e))) : ∃ g', fX11_workOut N (ρ : Int) (a : Int) ((a + (eM e).length : Nat) : Int) g = some (eV e L, g') ∧ FR [58] g g' := by
  obtain ⟨g', r1, r2, r3⟩ := E.2.2.2.2.2 N (N - 1 - (eM e).length + 1) ρ (a + (eM e).length) a L [] g hL hρ (by omega) hl (fun j hj => absurd (show j < 0 from hj) (by omega)) (by show 0 + eN e ≤ 48; omega) (Nat.le_refl _) G1 G2
  refine ⟨g', ?_, r2⟩
  unfold fX11_workOut
  rw [show N - 1 - (eM e).length + 1 + (eM e).length = N by omega] at r1
  rw [show (520 * (ρ : Int)) + (a : Int) = ((520 * ρ + a : Nat) : Int) by omega]
  have r1' : fX11_workOut_c12 N N (ρ : Int) ((a + (eM e).length : Nat) : Int) 0 ((520 * ρ + a : Nat) : Int) g = fX11_workOut_c12 N (N - 1 - (eM e).length + 1) (ρ : Int) ((a + (eM e).length : Nat) : Int) ((0 + 1 : Nat) : Int) ((520 * ρ + (a + (eM e).length) : Nat) : Int) g' := r1
  rw [r1']
  show fX11_workOut_c12b N (fX11_workOut_c12 N (N - 1 - (eM e).length)) _ _ _ _ g' = _
  unfold fX11_workOut_c12b
  have e0 : g' 58 0 = eV e L := (sm_last r3).1
  rw [if_pos (by rw [show (520 * (ρ : Int)) + ((a + (eM e).length : Nat) : Int) = ((520 * ρ + (a + (eM e).length) : Nat) : Int) by omega]; exact Int.le_refl _), e0]
theorem lawMo_to {ρ : Nat} {g g' : zH} (F : FR [58] g g') (cs : List rCl) : ∀ j o, lawMo ρ cs j o g → lawMo ρ cs j o g' := by
  induction cs with
  | nil => intro j o H; exact H
  | cons c cs ih =>
    intro j o H
    obtain ⟨h1, h2, h3, h4⟩ := H
    refine ⟨?_, ?_, ?_, ih _ _ h4⟩
    · rw [F 54 (by decide), F 55 (by decide), F 56 (by decide)]; exact h1
    · rw [F 50 (by decide), F 51 (by decide)]; exact h2
    · rw [F 50 (by decide), F 51 (by decide)]; exact h3
theorem lawRM {N ρ : Nat} (hN : 1000 ≤ N) {L : Nat → Int} (hL : LB L) (hρ : ρ < 5) {nc : Nat} (hnc : nc ≤ 140) (cs : List rCl) : ∀ (j o k : Nat) (g : zH), (∀ c, c ∈ cs → OKc c) → (∀ j, j < 7 → g 57 j = L j) → g 53 ρ = (nc : Int) → j + cs.length = nc → o + lawL cs ≤ 520 → lawMo ρ cs j o g → ∃ g', fX11_worthOf_c6 N (k + 1 + cs.length) (ρ : Int) ((140 * ρ + j : Nat) : Int) g = some (lawV L cs, g') ∧ FR [58] g g' := by
  induction cs with
  | nil =>
    intro j o k g hc hl h53 hj ho H
    have hj : j + 0 = nc := hj
    refine ⟨g, ?_, FR_rf⟩
    show fX11_worthOf_c6b N (fX11_worthOf_c6 N k) _ _ g = _
    unfold fX11_worthOf_c6b
    rw [zw_id (show -2147483648 ≤ (ρ : Int) ∧ (ρ : Int) < 2147483648 by omega), if_pos (by omega), Int.toNat_natCast, h53, if_pos (by rw [show (140 * (ρ : Int)) + (nc : Int) = ((140 * ρ + j : Nat) : Int) by omega]; exact Int.le_refl _)]
    rfl
  | cons c cs ih =>
    intro j o k g hc hl h53 hj ho H
    obtain ⟨o1, o2, o3⟩ := hc c (List.mem_cons_self ..)
    have hc' : ∀ d, d ∈ cs → OKc d := fun d hd => hc d (List.mem_cons_of_mem _ hd)
    have hj : j + (cs.length + 1) = nc := hj
    have ho : o + (tlC c + (eM c.2.2).length + lawL cs) ≤ 520 := ho
    obtain ⟨⟨h54, h55, h56⟩, ht, hs, hr⟩ := H
    show ∃ g', fX11_worthOf_c6b N (fX11_worthOf_c6 N (k + 1 + cs.length)) _ _ g = _ ∧ _
    unfold fX11_worthOf_c6b
    rw [zw_id (show -2147483648 ≤ (ρ : Int) ∧ (ρ : Int) < 2147483648 by omega), if_pos (by omega), Int.toNat_natCast, h53, show (140 * (ρ : Int)) + (nc : Int) = ((140 * ρ + nc : Nat) : Int) by omega, zw_id (show -2147483648 ≤ ((140 * ρ + nc : Nat) : Int) ∧ ((140 * ρ + nc : Nat) : Int) < 2147483648 by omega), zw_id (show -2147483648 ≤ ((140 * ρ + j : Nat) : Int) ∧ ((140 * ρ + j : Nat) : Int) < 2147483648 by omega), if_neg (by omega), if_pos (by omega), if_pos (by omega), Int.toNat_natCast, h54, h55, h56, zw_id (show -2147483648 ≤ (o : Int) ∧ (o : Int) < 2147483648 by omega), zw_id (show -2147483648 ≤ ((o + tlC c : Nat) : Int) ∧ ((o + tlC c : Nat) : Int) < 2147483648 by omega)]
    by_cases ct : c.1 = true
    · obtain ⟨t1, t2⟩ := o1 ct
      have etl : tlC c = (eM c.2.1).length := by unfold tlC; rw [if_pos ct]
      have l1 := t1.1
      have hl1 : 1 ≤ (eM c.2.1).length := by omega
      obtain ⟨g1, w1, w2⟩ := workM hN hL hρ t1 t2 hl (by omega) (ht ct).1 (ht ct).2
      rw [if_neg (by omega), if_pos (by omega), if_pos (by omega), etl, w1, z2_some, zw_id (show -2147483648 ≤ eV c.2.1 L ∧ eV c.2.1 L < 2147483648 by have := t1.2.2.1 L hL; omega)]
      by_cases c0 : eV c.2.1 L = 0
      · have eL : lawV L (c :: cs) = lawV L cs := by
          show (if c.1 = true ∧ eV c.2.1 L = 0 then lawV L cs else eV c.2.2 L) = _
          rw [if_pos ⟨ct, c0⟩]
        rw [if_pos c0, eL]
        obtain ⟨g2, r1, r2⟩ := ih (j + 1) (o + tlC c + (eM c.2.2).length) k g1 hc' (fun j hj => by rw [w2 57 (by decide)]; exact hl j hj) (by rw [w2 53 (by decide)]; exact h53) (by omega) (by omega) (lawMo_to w2 cs _ _ hr)
        refine ⟨g2, ?_, FR_tr w2 r2⟩
        rw [← r1]; rfl
      · have eL : lawV L (c :: cs) = eV c.2.2 L := by
          show (if c.1 = true ∧ eV c.2.1 L = 0 then lawV L cs else eV c.2.2 L) = _
          rw [if_neg (fun h => c0 h.2)]
        rw [if_neg c0, if_pos (by omega), if_pos (by omega), eL, w2 55 (by decide), w2 56 (by decide), h55, h56]
        obtain ⟨g2, y1, y2⟩ := workM (g := g1) (a := o + tlC c) hN hL hρ o2 o3 (fun j hj => by rw [w2 57 (by decide)]; exact hl j hj) (by omega) (by rw [w2 50 (by decide)]; exact hs.1) (by rw [w2 51 (by decide)]; exact hs.2)
        rw [y1, z2_some]
        exact ⟨g2, rfl, FR_tr w2 y2⟩
    · have etl : tlC c = 0 := by unfold tlC; rw [if_neg ct]
      have eL : lawV L (c :: cs) = eV c.2.2 L := by
        show (if c.1 = true ∧ eV c.2.1 L = 0 then lawV L cs else eV c.2.2 L) = _
        rw [if_neg (fun h => ct h.1)]
      rw [if_pos (by omega), if_pos (by omega), if_pos (by omega), eL]
      obtain ⟨g2, y1, y2⟩ := workM (g := g) (a := o + tlC c) hN hL hρ o2 o3 hl (by omega) hs.1 hs.2
      rw [y1, z2_some]
      exact ⟨g2, rfl, y2⟩
theorem worthM {N ρ : Nat} (hN : 1000 ≤ N) {L : Nat → Int} (hL : LB L) (hρ : ρ < 5) {cs : List rCl} (hc : ∀ c, c ∈ cs → OKc c) {g : zH} (hl : ∀ j, j < 7 → g 57 j = L j) (h53 : g 53 ρ = (cs.length : Int)) (hcl : cs.length ≤ 140) (hll : lawL cs ≤ 520) (H : lawMo ρ cs 0 0 g) : ∃ g', fX11_worthOf N (ρ : Int) g = some (lawV L cs, g') ∧ FR [58] g g' := by
  obtain ⟨g', r1, r2⟩ := lawRM (N := N) hN hL hρ hcl cs 0 0 (N - 1 - cs.length) g hc hl h53 (Nat.zero_add _) (by omega) H
  refine ⟨g', ?_, r2⟩
  unfold fX11_worthOf
  rw [show N - 1 - cs.length + 1 + cs.length = N by omega] at r1
  rw [show (140 * (ρ : Int)) = ((140 * ρ + 0 : Nat) : Int) by omega]
  exact r1
