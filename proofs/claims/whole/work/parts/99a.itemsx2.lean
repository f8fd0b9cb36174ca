/-! all items of a clause, the class's -/
theorem loopIX {n : Nat} {b : Nat → Nat} (T : TV n b) {N : Nat} (hN : 300 ≤ N) {k idx : Nat} (hk : k < 4) (hx : idx < 8) (m : Nat) : ∀ (u P F : Nat) (c : Nat → Int) (h : zH), m + crd u = 4 → u < 16 → m < F → P ≤ n → TX n b h → h 1 2 = (P : Int) → h 1 3 = -1 → (∀ i, i < itN k → h 19 (32 * k + 4 * idx + i) = c i) → ∃ h', fX1_readItems_c16 N 3 F (k : Int) (idx : Int) (u : Int) (itI k (sg n b P)) ((crd u : Nat) : Int) h = some h' ∧ FR [1, 19] h h' ∧ FS 1 [2, 3] h h' ∧ (∀ q, q < 32 * k + 4 * idx ∨ 32 * k + 4 * idx + itN k ≤ q → h' 19 q = h 19 q) ∧ h' 1 3 = (iR n b k m P u c).2.1 ∧ (∃ q : Nat, h' 1 2 = (q : Int) ∧ q ≤ n) ∧ ((iR n b k m P u c).2.1 = -1 → h' 1 2 = ((iR n b k m P u c).1 : Int) ∧ ∀ i, i < itN k → h' 19 (32 * k + 4 * idx + i) = (iR n b k m P u c).2.2 i) := by
  have h4 := itN_4 k
  induction m with
  | zero =>
    intro u P F c h hm hu hF hP H hpl hf hc
    obtain ⟨F, rfl⟩ : ∃ F', F = F' + 1 := ⟨F - 1, by omega⟩
    refine ⟨h, ?_, FR_rf, FS_rf, fun q _ => rfl, hf, ⟨P, hpl, hP⟩, fun _ => ⟨hpl, hc⟩⟩
    show fX1_readItems_c16b N 3 (fX1_readItems_c16 N 3 F) _ _ _ _ _ h = _
    unfold fX1_readItems_c16b
    rw [show crd u = 4 by omega, if_pos (show zw 4 ≤ zw ((4 : Nat) : Int) by decide)]
  | succ m ih =>
    intro u P F c h hm hu hF hP H hpl hf hc
    obtain ⟨F, rfl⟩ : ∃ F', F = F' + 1 := ⟨F - 1, by omega⟩
    have ib := itI_b (k := k) (c := sg n b P)
    -- to stop
    have stop : (itI k (sg n b P) = -1 ∨ ∃ i : Nat, itI k (sg n b P) = (i : Int) ∧ u.testBit i = true) → iR n b k (m + 1) P u c = (P, -1, c) ∧ fX1_readItems_c16 N 3 (F + 1) (k : Int) (idx : Int) (u : Int) (itI k (sg n b P)) ((crd u : Nat) : Int) h = some h := by
      intro hs
      refine ⟨?_, ?_⟩
      · unfold iR
        rcases hs with e | ⟨i, e, hb⟩
        · rw [if_pos e]
        · rw [e, if_neg (by omega), Int.toNat_natCast, if_pos hb]
      · show fX1_readItems_c16b N 3 (fX1_readItems_c16 N 3 F) _ _ _ _ _ h = _
        unfold fX1_readItems_c16b
        rw [show zw 4 = 4 by decide, zw_id (show -2147483648 ≤ ((crd u : Nat) : Int) ∧ ((crd u : Nat) : Int) < 2147483648 by omega), if_neg (by omega), zw_m1]
        rcases hs with e | ⟨i, e, hb⟩
        · rw [e, zw_m1, if_pos rfl]
        · rw [e, zw_id (show -2147483648 ≤ (i : Int) ∧ (i : Int) < 2147483648 by omega), if_neg (by omega), isInX u hu i (by omega), hb, if_pos rfl, if_neg (show ¬ zw 1 = 0 by decide)]
    by_cases ce : itI k (sg n b P) = -1
    · obtain ⟨s1, s2⟩ := stop (Or.inl ce)
      rw [s1, s2]
      exact ⟨h, rfl, FR_rf, FS_rf, fun q _ => rfl, hf, ⟨P, hpl, hP⟩, fun _ => ⟨hpl, hc⟩⟩
    · obtain ⟨i, hi⟩ : ∃ i : Nat, itI k (sg n b P) = (i : Int) := ⟨(itI k (sg n b P)).toNat, by omega⟩
      by_cases cb : u.testBit i = true
      · obtain ⟨s1, s2⟩ := stop (Or.inr ⟨i, hi, cb⟩)
        rw [s1, s2]
        exact ⟨h, rfl, FR_rf, FS_rf, fun q _ => rfl, hf, ⟨P, hpl, hP⟩, fun _ => ⟨hpl, hc⟩⟩
      · have cb : u.testBit i = false := Bool.eq_false_iff.mpr cb
        have hin : i < itN k := by omega
        have hlt : P < n := itI_lt ce
        obtain ⟨y1, y2⟩ := crd_up u hu i (by omega) cb
        obtain ⟨h1, r1, r2, r3, r4, r5, r6, r7⟩ := oneIX (F := F) (idx := idx) T hN hk hx hu H hpl hf (show crd u < 4 by omega) hi cb
        have b1 := (nbr_b (b := b) (show P + 1 ≤ n by omega)).1
        have sk := skp_b (b := b) b1
        have eR : iR n b k (m + 1) P u c = if nbf n b (P + 1) (loI k i) (hiI k i) = -1 then iR n b k m (skp n b (nbr n b (P + 1)).1) (u ||| 2 ^ i) (upI c i (nbr n b (P + 1)).2.1) else (P, nbf n b (P + 1) (loI k i) (hiI k i), c) := by
          show (if itI k (sg n b P) = -1 then _ else _) = _
          rw [hi, if_neg (by omega), Int.toNat_natCast, cb, if_neg (show ¬ (false = true) by decide)]
        rw [hi, r1, eR]
        have out : ∀ q, q < 32 * k + 4 * idx ∨ 32 * k + 4 * idx + itN k ≤ q → h1 19 q = h 19 q := fun q hq => r4 q (fun e => by have := List.mem_singleton.mp e; omega)
        by_cases cf : nbf n b (P + 1) (loI k i) (hiI k i) = -1
        · rw [if_pos cf, if_pos cf, ← y1]
          obtain ⟨h2, w1, w2, w3, w4, w5, w6, w7⟩ := ih (u ||| 2 ^ i) (skp n b (nbr n b (P + 1)).1) F (upI c i (nbr n b (P + 1)).2.1) h1 (by omega) y2 (by omega) sk.2.1 (TX_to H (r3 1 (by decide)) (r2 15 (by decide))) r6 (by rw [r5]; exact cf) (fun j hj => by
            unfold upI
            by_cases e : j = i
            · rw [if_pos e, e]; exact r7
            · rw [if_neg e, r4 _ (fun hm => by have := List.mem_singleton.mp hm; omega)]; exact hc j hj)
          exact ⟨h2, w1, FR_tr r2 w2, FS_tr r3 w3, fun q hq => by rw [w4 q hq]; exact out q hq, w5, w6, w7⟩
        · rw [if_neg cf, if_neg cf]
          obtain ⟨F, rfl⟩ : ∃ F', F = F' + 1 := ⟨F - 1, by omega⟩
          refine ⟨h1, ?_, r2, r3, out, r5, ⟨_, r6, sk.2.1⟩, fun e => absurd e cf⟩
          show fX1_readItems_c16b N 3 (fX1_readItems_c16 N 3 F) _ _ _ _ _ h1 = _
          unfold fX1_readItems_c16b
          rw [if_pos (show zw (-1) = zw (-1) from rfl)]
          split <;> rfl
/-- what is usual, then what is told -/
def iUs (k : Nat) (i : Nat) : Int := fX11_usual (itL k) (i : Int)
def iAll (n : Nat) (b : Nat → Nat) (k p : Nat) : Nat × Int × (Nat → Int) := iR n b k 4 (skp n b p) 0 (iUs k)
theorem itemsX {n : Nat} {b : Nat → Nat} (T : TV n b) {N : Nat} (hN : 300 ≤ N) {k idx p : Nat} (hk : k < 4) (hx : idx < 8) {h : zH} (H : TX n b h) (hp : p ≤ n) (hpl : h 1 2 = (p : Int)) (hf : h 1 3 = -1) (hc : ∀ i, i < itN k → h 19 (32 * k + 4 * idx + i) = iUs k i) : ∃ h', fX1_readItems N 3 (k : Int) (idx : Int) h = some h' ∧ FR [1, 19] h h' ∧ FS 1 [2, 3] h h' ∧ (∀ q, q < 32 * k + 4 * idx ∨ 32 * k + 4 * idx + itN k ≤ q → h' 19 q = h 19 q) ∧ h' 1 3 = (iAll n b k p).2.1 ∧ (∃ q : Nat, h' 1 2 = (q : Int) ∧ q ≤ n) ∧ ((iAll n b k p).2.1 = -1 → h' 1 2 = ((iAll n b k p).1 : Int) ∧ ∀ i, i < itN k → h' 19 (32 * k + 4 * idx + i) = (iAll n b k p).2.2 i) := by
  obtain ⟨h1, e1, e2, e3, e4⟩ := nextX T hN H hp hpl hf (by decide)
  rw [if_pos rfl] at e1
  obtain ⟨s1, s2, s3⟩ := skp_b (b := b) hp
  have G1 : FS 1 [2, 3] h h1 := fun q hq => e3 q (fun e => hq (by rw [List.mem_singleton.mp e]; decide))
  unfold fX1_readItems
  rw [e1, z2_some, itX (by omega) (sg_w T) s3 hk, zb_some]
  obtain ⟨h2, w1, w2, w3, w4, w5, w6, w7⟩ := loopIX T hN hk hx 4 0 (skp n b p) N (iUs k) h1 rfl (by decide) (by omega) s2 (TX_to H (G1 1 (by decide)) (e2 15 (by decide))) e4 (by rw [e3 3 (by decide)]; exact hf) (fun i hi => by rw [e2 19 (by decide)]; exact hc i hi)
  exact ⟨h2, w1, FR_tr (FR_up e2 (by decide)) w2, FS_tr G1 w3, fun q hq => by rw [w4 q hq, e2 19 (by decide)], w5, w6, w7⟩
