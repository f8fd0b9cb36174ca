/-! items are read by the class -/
def crd (u : Nat) : Nat := u % 2 + u / 2 % 2 + u / 4 % 2 + u / 8 % 2
theorem crd_up : ∀ u, u < 16 → ∀ i, i < 4 → u.testBit i = false → crd (u ||| 2 ^ i) = crd u + 1 ∧ (u ||| 2 ^ i) < 16 := by decide +kernel
theorem crd_4 : ∀ u, u < 16 → crd u = 4 → ∀ i, i < 4 → u.testBit i = true := by decide +kernel
theorem isInX : ∀ u : Nat, u < 16 → ∀ i : Nat, i < 4 → fX10_isIn (u : Int) (i : Int) = if u.testBit i then 1 else 0 := by decide +kernel
theorem hasMI : ∀ u : Nat, u < 16 → ∀ i : Nat, i < 4 → fX11_has (u : Int) (i : Int) = if u.testBit i then 1 else 0 := by decide +kernel
theorem orI {u i : Nat} (hu : u < 16) (hi : i < 4) : zor (u : Int) (zshl 1 (i : Int)) = ((u ||| 2 ^ i : Nat) : Int) := by
  rw [zshl_1 i (by omega), zor_nat (by omega) (Nat.lt_trans (Nat.pow_lt_pow_right (by decide) (show i < 4 from hi)) (by decide))]
abbrev loI (k i : Nat) : Int := fX11_lowest (itL k) (i : Int)
abbrev hiI (k i : Nat) : Int := fX11_highest (itL k) (i : Int)
def upI (c : Nat → Int) (i : Nat) (v : Int) : Nat → Int := fun j => if j = i then v else c j
/-- m items more at most, the place P: where it ends, the fault, the cells -/
def iR (n : Nat) (b : Nat → Nat) (k : Nat) : Nat → Nat → Nat → (Nat → Int) → Nat × Int × (Nat → Int)
  | 0, P, _, c => (P, -1, c)
  | m + 1, P, u, c => if itI k (sg n b P) = -1 then (P, -1, c) else if u.testBit (itI k (sg n b P)).toNat then (P, -1, c) else if nbf n b (P + 1) (loI k (itI k (sg n b P)).toNat) (hiI k (itI k (sg n b P)).toNat) = -1 then iR n b k m (skp n b (nbr n b (P + 1)).1) (u ||| 2 ^ (itI k (sg n b P)).toNat) (upI c (itI k (sg n b P)).toNat (nbr n b (P + 1)).2.1) else (P, nbf n b (P + 1) (loI k (itI k (sg n b P)).toNat) (hiI k (itI k (sg n b P)).toNat), c)
theorem itN_4 (k : Nat) : itN k ≤ 4 := by
  unfold itN
  (repeat' split) <;> decide
theorem itI_lt {n : Nat} {b : Nat → Nat} {k P : Nat} (h : itI k (sg n b P) ≠ -1) : P < n := by
  refine sg_lt (b := b) (fun e => h ?_)
  rw [e]
  unfold itI
  (repeat' split) <;> first | rfl | omega
theorem rngX {β : Type} (G : zH → β) {s : zH} {v lo hi : Int} {e : Nat} {f : Int} (hv : 0 ≤ v ∧ v ≤ 99) (hl : 0 ≤ lo ∧ lo ≤ 99) (hh : 0 ≤ hi ∧ hi ≤ 99) (hf : s 1 3 = f) (hfb : -1 ≤ f ∧ f ≤ 1000) (he : s 1 2 = (e : Int)) : (if zw v < zw lo then G (fX9_blame ((s 1 2) - 1) s) else if zw v ≤ zw hi then G s else G (fX9_blame ((s 1 2) - 1) s)) = G (if f = -1 ∧ ¬ (lo ≤ v ∧ v ≤ hi) then zs s 1 3 ((e : Int) - 1) else s) := by
  rw [zw_id (show -2147483648 ≤ v ∧ v < 2147483648 by omega), zw_id (show -2147483648 ≤ lo ∧ lo < 2147483648 by omega), zw_id (show -2147483648 ≤ hi ∧ hi < 2147483648 by omega), he, blameX hf hfb]
  by_cases c : lo ≤ v ∧ v ≤ hi
  · rw [if_neg (by omega), if_pos (by omega), if_neg (fun h => h.2 c)]
  · have e2 : (if f = -1 ∧ ¬ (lo ≤ v ∧ v ≤ hi) then zs s 1 3 ((e : Int) - 1) else s) = if f = -1 then zs s 1 3 ((e : Int) - 1) else s := by
      by_cases cf : f = -1
      · rw [if_pos ⟨cf, c⟩, if_pos cf]
      · rw [if_neg (fun h => cf h.1), if_neg cf]
    rw [e2]
    by_cases c1 : v < lo
    · rw [if_pos c1]
    · rw [if_neg c1, if_neg (by omega)]
theorem put19 {j : Nat} (hj : j < 128) (v : Int) (h : zH) : fX10_put 19 (j : Int) v h = zs h 19 j v := by
  rw [put_in (by omega) (by show _ < ((128 : Nat) : Int); omega), Int.toNat_natCast]
/-- an item of the class: the number, its range, its cell -/
theorem oneIX {n : Nat} {b : Nat → Nat} (T : TV n b) {N : Nat} (hN : 300 ≤ N) {k idx i u m F P : Nat} (hk : k < 4) (hx : idx < 8) (hu : u < 16) {h : zH} (H : TX n b h) (hpl : h 1 2 = (P : Int)) (hf : h 1 3 = -1) (hm : m < 4) (hi : itI k (sg n b P) = (i : Int)) (hb : u.testBit i = false) :
    ∃ h', fX1_readItems_c16 N 3 (F + 1) (k : Int) (idx : Int) (u : Int) (i : Int) (m : Int) h = fX1_readItems_c16 N 3 F (k : Int) (idx : Int) ((u ||| 2 ^ i : Nat) : Int) (if nbf n b (P + 1) (loI k i) (hiI k i) = -1 then itI k (sg n b (skp n b (nbr n b (P + 1)).1)) else -1) ((m + 1 : Nat) : Int) h' ∧ FR [1, 19] h h' ∧ FS 1 [2, 3] h h' ∧ FS 19 [32 * k + 4 * idx + i] h h' ∧ h' 1 3 = nbf n b (P + 1) (loI k i) (hiI k i) ∧ h' 1 2 = (skp n b (nbr n b (P + 1)).1 : Int) ∧ h' 19 (32 * k + 4 * idx + i) = (nbr n b (P + 1)).2.1 := by
  have n240 := T.1
  have hlt : P < n := itI_lt (k := k) (by rw [hi]; omega)
  have hin : i < itN k := by have := (itI_b (k := k) (c := sg n b P)).2; omega
  have h4 := itN_4 k
  obtain ⟨g1, g2, g3, g4, g5, g6⟩ := rng_eq k hk i hin
  obtain ⟨b1, b2, b3, b4⟩ := nbr_b (b := b) (show P + 1 ≤ n by omega)
  show ∃ h', fX1_readItems_c16b N 3 (fX1_readItems_c16 N 3 F) _ _ _ _ _ h = _ ∧ _
  unfold fX1_readItems_c16b
  rw [show zw 4 = 4 by decide, zw_id (show -2147483648 ≤ (m : Int) ∧ (m : Int) < 2147483648 by omega), zw_id (show -2147483648 ≤ (i : Int) ∧ (i : Int) < 2147483648 by omega), zw_m1, if_neg (by omega), if_neg (by omega), isInX u hu i (by omega), hb, if_neg (show ¬ (false = true) by decide), if_pos zw_0, orI hu (by omega), zlet_v, zlet_v, hpl, g1, g2]
  obtain ⟨h1, eh1⟩ : ∃ h1, h1 = zs h 1 2 ((P : Int) + 1) := ⟨_, rfl⟩
  rw [← eh1]
  have F1 : FR [1] h h1 := by rw [eh1]; exact fun b hb => zs_row_ne (fun e => hb (by rw [e]; decide))
  have G1 : FS 1 [2, 3] h h1 := by rw [eh1]; exact fun q hq => zs_ne (fun e => hq (by rw [e]; decide))
  have p1 : h1 1 2 = ((P + 1 : Nat) : Int) := by rw [eh1, zs_at]; rfl
  have f1 : h1 1 3 = -1 := by rw [eh1, zs_ne (by decide)]; exact hf
  obtain ⟨h2, r1, r2, r3, r4, r5⟩ := numX T hN (TX_to H (G1 1 (by decide)) (F1 15 (by decide))) (show P + 1 ≤ n by omega) p1 f1
  rw [r1, z2_some]
  have key := rngX (fun s => zlet (fX10_put (zfr 3 0) (fX1_cellOf (k : Int) (idx : Int) (i : Int)) (nbr n b (P + 1)).2.1 s) fun h15 => z2 (fX9_next N h15) fun v17 h16 => zb (fX1_itemOf N (k : Int) v17) fun v18 => fX1_readItems_c16 N 3 F (k : Int) (idx : Int) ((u ||| 2 ^ i : Nat) : Int) v18 ((m : Int) + 1) h16) (s := h2) (v := (nbr n b (P + 1)).2.1) (lo := loI k i) (hi := hiI k i) (e := (nbr n b (P + 1)).1) b2 g4 g5 r5 (by omega) r4
  simp only [zlet_v] at key ⊢
  rw [key]
  obtain ⟨h3, eh3⟩ : ∃ h3, h3 = (if (nbr n b (P + 1)).2.2 = -1 ∧ ¬ (loI k i ≤ (nbr n b (P + 1)).2.1 ∧ (nbr n b (P + 1)).2.1 ≤ hiI k i) then zs h2 1 3 (((nbr n b (P + 1)).1 : Int) - 1) else h2) := ⟨_, rfl⟩
  rw [← eh3]
  have F3 : FR [1] h2 h3 := by
    rw [eh3]; split
    · exact fun b hb => zs_row_ne (fun e => hb (by rw [e]; decide))
    · exact FR_rf
  have G3 : FS 1 [3] h2 h3 := by
    rw [eh3]; split
    · exact fun q hq => zs_ne (fun e => hq (by rw [e]; decide))
    · exact FS_rf
  have f3 : h3 1 3 = nbf n b (P + 1) (loI k i) (hiI k i) := by
    rw [eh3]
    unfold nbf
    by_cases c : (nbr n b (P + 1)).2.2 = -1
    · rw [if_pos c]
      by_cases c1 : loI k i ≤ (nbr n b (P + 1)).2.1 ∧ (nbr n b (P + 1)).2.1 ≤ hiI k i
      · rw [if_pos c1, if_neg (fun h => h.2 c1), r5, c]
      · rw [if_neg c1, if_pos ⟨c, c1⟩, zs_at]
    · rw [if_neg c, if_neg (fun h => c h.1), r5]
  have p3 : h3 1 2 = ((nbr n b (P + 1)).1 : Int) := by rw [G3 2 (by decide)]; exact r4
  have ecell : fX1_cellOf (k : Int) (idx : Int) (i : Int) = ((32 * k + 4 * idx + i : Nat) : Int) := by unfold fX1_cellOf; omega
  have e19 : zfr 3 0 = 19 := rfl
  rw [ecell, e19, put19 (by omega)]
  obtain ⟨h4, eh4⟩ : ∃ h4, h4 = zs h3 19 (32 * k + 4 * idx + i) (nbr n b (P + 1)).2.1 := ⟨_, rfl⟩
  rw [← eh4]
  have F4 : FR [1, 19] h h4 := by
    rw [eh4]
    exact FR_tr (FR_up F1 (by decide)) (FR_tr (FR_up r2 (by decide)) (FR_tr (FR_up F3 (by decide)) (fun b hb => zs_row_ne (fun e => hb (by rw [e]; decide)))))
  have G4 : FS 1 [2, 3] h h4 := by
    rw [eh4]
    exact FS_tr G1 (FS_tr r3 (fun q hq => by rw [zs_row_ne (by decide), G3 q (fun e => hq (by rw [List.mem_singleton.mp e]; decide))]))
  have K4 : FS 19 [32 * k + 4 * idx + i] h h4 := by
    rw [eh4]
    exact fun q hq => by rw [zs_ne (fun e => hq (by rw [e]; exact List.mem_singleton.mpr rfl)), F3 19 (by decide), r2 19 (by decide), F1 19 (by decide)]
  have f4 : h4 1 3 = nbf n b (P + 1) (loI k i) (hiI k i) := by rw [eh4, zs_row_ne (by decide)]; exact f3
  have p4 : h4 1 2 = ((nbr n b (P + 1)).1 : Int) := by rw [eh4, zs_row_ne (by decide)]; exact p3
  have fb := nbf_b (b := b) (show P + 1 ≤ n by omega) (loI k i) (hiI k i)
  obtain ⟨h5, u1, u2, u3, u4⟩ := nextX T hN (TX_to H (G4 1 (by decide)) (F4 15 (by decide))) b1 p4 f4 (by omega)
  have sk := skp_b (b := b) b1
  have zz : zw (if nbf n b (P + 1) (loI k i) (hiI k i) = -1 then sg n b (skp n b (nbr n b (P + 1)).1) else -1) = (if nbf n b (P + 1) (loI k i) (hiI k i) = -1 then sg n b (skp n b (nbr n b (P + 1)).1) else -1) := by
    split
    · exact sg_w T
    · exact zw_m1
  have z32 : (if nbf n b (P + 1) (loI k i) (hiI k i) = -1 then sg n b (skp n b (nbr n b (P + 1)).1) else -1) ≠ 32 := by
    split
    · exact sk.2.2
    · decide
  rw [u1, z2_some, itX (by omega) zz z32 hk, zb_some]
  have eI : itI k (if nbf n b (P + 1) (loI k i) (hiI k i) = -1 then sg n b (skp n b (nbr n b (P + 1)).1) else -1) = (if nbf n b (P + 1) (loI k i) (hiI k i) = -1 then itI k (sg n b (skp n b (nbr n b (P + 1)).1)) else -1) := by
    split
    · rfl
    · unfold itI
      (repeat' split) <;> first | rfl | omega
  rw [eI]
  exact ⟨h5, rfl, FR_tr F4 (FR_up u2 (by decide)), FS_tr G4 (fun q hq => u3 q (fun e => hq (by rw [List.mem_singleton.mp e]; decide))), FS_tr K4 (fun q _ => by rw [u2 19 (by decide)]), by rw [u3 3 (by decide)]; exact f4, u4, by rw [u2 19 (by decide), eh4, zs_at]⟩
