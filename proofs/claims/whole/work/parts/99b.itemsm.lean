/-! all items of a clause, the model's -/
theorem loopIM {n : Nat} {b : Nat → Nat} (T : TV n b) {N : Nat} (hN : 300 ≤ N) {k o B : Nat} (hk : k < 4) (ho : 59 ≤ o ∧ o ≤ 62) (hB : B + itN k ≤ zln o) (hz : zln o ≤ 100) (m : Nat) : ∀ (u P F : Nat) (c : Nat → Int) (g : zH), m + crd u = 4 → u < 16 → m + 1 < F → P ≤ n → TMo n b g → g 14 3 = (P : Int) → g 14 4 = -1 → (∀ i, i < itN k → g o (B + i) = c i) → ∃ g', fX11_items_c41 N o F (itL k) (B : Int) (u : Int) (itI k (sg n b P)) g = some g' ∧ FR [14, o] g g' ∧ FS 14 [3, 4] g g' ∧ (∀ q, q < B ∨ B + itN k ≤ q → g' o q = g o q) ∧ g' 14 4 = (iR n b k m P u c).2.1 ∧ ((iR n b k m P u c).2.1 = -1 → g' 14 3 = ((iR n b k m P u c).1 : Int) ∧ ∀ i, i < itN k → g' o (B + i) = (iR n b k m P u c).2.2 i) := by
  have h4 := itN_4 k
  have n240 := T.1
  have mo : o ∈ [14, o] := List.mem_cons_of_mem _ (List.mem_cons_self ..)
  -- to stop
  have stop : ∀ (u P F : Nat) (g : zH), u < 16 → g 14 4 = -1 → (itI k (sg n b P) = -1 ∨ ∃ i : Nat, itI k (sg n b P) = (i : Int) ∧ i < 4 ∧ u.testBit i = true) → fX11_items_c41 N o (F + 1) (itL k) (B : Int) (u : Int) (itI k (sg n b P)) g = some g := by
    intro u P F g hu hf hs
    show fX11_items_c41b N o (fX11_items_c41 N o F) _ _ _ _ g = _
    unfold fX11_items_c41b
    rw [hf, if_pos (show zw (-1) = zw (-1) from rfl)]
    rcases hs with e | ⟨i, e, hi, hb⟩
    · rw [e, if_pos (show zw (-1) = zw (-1) from rfl)]
    · rw [e, zw_m1, zw_id (show -2147483648 ≤ (i : Int) ∧ (i : Int) < 2147483648 by omega), if_neg (by omega), hasMI u hu i hi, hb, if_pos rfl, if_neg (show ¬ zw 1 = 0 by decide)]
  induction m with
  | zero =>
    intro u P F c g hm hu hF hP H hpl hf hc
    obtain ⟨F, rfl⟩ : ∃ F', F = F' + 1 := ⟨F - 1, by omega⟩
    have ib := itI_b (k := k) (c := sg n b P)
    refine ⟨g, stop u P F g hu hf ?_, FR_rf, FS_rf, fun q _ => rfl, hf, fun _ => ⟨hpl, hc⟩⟩
    by_cases ce : itI k (sg n b P) = -1
    · exact Or.inl ce
    · exact Or.inr ⟨(itI k (sg n b P)).toNat, by omega, by omega, crd_4 u hu (by omega) _ (by omega)⟩
  | succ m ih =>
    intro u P F c g hm hu hF hP H hpl hf hc
    obtain ⟨F, rfl⟩ : ∃ F', F = F' + 1 := ⟨F - 1, by omega⟩
    have ib := itI_b (k := k) (c := sg n b P)
    by_cases ce : itI k (sg n b P) = -1
    · have s1 : iR n b k (m + 1) P u c = (P, -1, c) := by unfold iR; rw [if_pos ce]
      rw [s1, stop u P F g hu hf (Or.inl ce)]
      exact ⟨g, rfl, FR_rf, FS_rf, fun q _ => rfl, hf, fun _ => ⟨hpl, hc⟩⟩
    · obtain ⟨i, hi⟩ : ∃ i : Nat, itI k (sg n b P) = (i : Int) := ⟨(itI k (sg n b P)).toNat, by omega⟩
      by_cases cb : u.testBit i = true
      · have s1 : iR n b k (m + 1) P u c = (P, -1, c) := by unfold iR; rw [hi, if_neg (by omega), Int.toNat_natCast, if_pos cb]
        rw [s1, stop u P F g hu hf (Or.inr ⟨i, hi, by omega, cb⟩)]
        exact ⟨g, rfl, FR_rf, FS_rf, fun q _ => rfl, hf, fun _ => ⟨hpl, hc⟩⟩
      · have cb : u.testBit i = false := Bool.eq_false_iff.mpr cb
        have hin : i < itN k := by omega
        have hlt : P < n := itI_lt ce
        obtain ⟨y1, y2⟩ := crd_up u hu i (by omega) cb
        obtain ⟨q1, q2, q3, q4, q5, q6⟩ := rng_eq k hk i hin
        have b1 := (nbr_b (b := b) (show P + 1 ≤ n by omega)).1
        have sk := skp_b (b := b) b1
        have eR : iR n b k (m + 1) P u c = if nbf n b (P + 1) (loI k i) (hiI k i) = -1 then iR n b k m (skp n b (nbr n b (P + 1)).1) (u ||| 2 ^ i) (upI c i (nbr n b (P + 1)).2.1) else (P, nbf n b (P + 1) (loI k i) (hiI k i), c) := by
          show (if itI k (sg n b P) = -1 then _ else _) = _
          rw [hi, if_neg (by omega), Int.toNat_natCast, cb, if_neg (show ¬ (false = true) by decide)]
        rw [eR, hi]
        show ∃ g', fX11_items_c41b N o (fX11_items_c41 N o F) _ _ _ _ g = _ ∧ _
        unfold fX11_items_c41b
        rw [hf, if_pos (show zw (-1) = zw (-1) from rfl), zw_m1, zw_id (show -2147483648 ≤ (i : Int) ∧ (i : Int) < 2147483648 by omega), if_neg (by omega), hasMI u hu i (by omega), cb, if_neg (show ¬ (false = true) by decide), if_pos zw_0, orI hu (by omega), zlet_v, zlet_v, hpl]
        obtain ⟨g1, eg1⟩ : ∃ g1, g1 = zs g 14 3 ((P : Int) + 1) := ⟨_, rfl⟩
        rw [← eg1]
        have F1 : FR [14] g g1 := by rw [eg1]; exact fun b hb => zs_row_ne (fun e => hb (by rw [e]; decide))
        have G1 : FS 14 [3, 4] g g1 := by rw [eg1]; exact fun q hq => zs_ne (fun e => hq (by rw [e]; decide))
        have p1 : g1 14 3 = ((P + 1 : Nat) : Int) := by rw [eg1, zs_at]; rfl
        have f1 : g1 14 4 = -1 := by rw [eg1, zs_ne (by decide)]; exact hf
        obtain ⟨v, g2, r1, r2, r3, r4, r5⟩ := numMo T hN (TM_to H (G1 2 (by decide)) (F1 49 (by decide))) (show P + 1 ≤ n by omega) p1 f1 q4 q5
        rw [r1, z2_some, show (B : Int) + (i : Int) = ((B + i : Nat) : Int) by omega, zw_id (show -2147483648 ≤ ((B + i : Nat) : Int) ∧ ((B + i : Nat) : Int) < 2147483648 by omega), if_pos (by omega), Int.toNat_natCast]
        simp only [zlet_v]
        obtain ⟨g3, eg3⟩ : ∃ g3, g3 = zs g2 o (B + i) v := ⟨_, rfl⟩
        rw [← eg3]
        have F3 : FR [14, o] g g3 := by
          rw [eg3]
          exact FR_tr (fun b hb => F1 b (fun e => hb (by rw [List.mem_singleton.mp e]; exact List.mem_cons_self ..))) (FR_tr (fun b hb => r2 b (fun e => hb (by rw [List.mem_singleton.mp e]; exact List.mem_cons_self ..))) (fun b hb => zs_row_ne (fun e => hb (by rw [e]; exact mo))))
        have G3 : FS 14 [3, 4] g g3 := by
          rw [eg3]
          exact FS_tr G1 (FS_tr r3 (fun q hq => by rw [zs_row_ne (by omega)]))
        have K3 : ∀ q, q ≠ B + i → g3 o q = g o q := fun q hq => by
          rw [eg3, zs_ne hq, r2 o (fun e => by have := List.mem_singleton.mp e; omega), F1 o (fun e => by have := List.mem_singleton.mp e; omega)]
        have out : ∀ q, q < B ∨ B + itN k ≤ q → g3 o q = g o q := fun q hq => K3 q (by omega)
        have f3 : g3 14 4 = nbf n b (P + 1) (loI k i) (hiI k i) := by rw [eg3, zs_row_ne (by omega)]; exact r4
        have c3 : g3 o (B + i) = v := by rw [eg3, zs_at]
        have fb := nbf_b (b := b) (show P + 1 ≤ n by omega) (loI k i) (hiI k i)
        have T3 : TMo n b g3 := TM_to H (G3 2 (by decide)) (F3 49 (fun e => by
          rcases List.mem_cons.mp e with e | e
          · omega
          · have := List.mem_singleton.mp e
            omega))
        rw [f3, zw_id (show -2147483648 ≤ nbf n b (P + 1) (loI k i) (hiI k i) ∧ nbf n b (P + 1) (loI k i) (hiI k i) < 2147483648 by omega)]
        by_cases cf : nbf n b (P + 1) (loI k i) (hiI k i) = -1
        · obtain ⟨u1, u2⟩ := r5 cf
          have p3 : g3 14 3 = ((nbr n b (P + 1)).1 : Int) := by rw [eg3, zs_row_ne (by omega)]; exact u2
          obtain ⟨g4, w1, w2, w3, w4⟩ := lookM T hN T3 (show (nbr n b (P + 1)).1 < 100000 by omega) p3
          rw [if_pos cf, if_pos cf, w1, z2_some, itM (sg_w T) hk]
          have W : FR [14, o] g3 g4 := fun b hb => w2 b (fun e => hb (by rw [List.mem_singleton.mp e]; exact List.mem_cons_self ..))
          have W3 : FS 14 [3, 4] g3 g4 := fun q hq => w3 q (fun e => hq (by rw [List.mem_singleton.mp e]; decide))
          have Wo : ∀ q, g4 o q = g3 o q := fun q => by rw [w2 o (fun e => by have := List.mem_singleton.mp e; omega)]
          obtain ⟨g5, x1, x2, x3, x4, x5, x6⟩ := ih (u ||| 2 ^ i) (skp n b (nbr n b (P + 1)).1) F (upI c i (nbr n b (P + 1)).2.1) g4 (by omega) y2 (by omega) sk.2.1 (TM_to T3 (W3 2 (by decide)) (w2 49 (by decide))) w4 (by rw [w3 4 (by decide), f3]; exact cf) (fun j hj => by
            unfold upI
            by_cases e : j = i
            · rw [if_pos e, e, Wo, c3]; exact u1
            · rw [if_neg e, Wo, K3 _ (by omega)]; exact hc j hj)
          exact ⟨g5, x1, FR_tr F3 (FR_tr W x2), FS_tr G3 (FS_tr W3 x3), fun q hq => by rw [x4 q hq, Wo]; exact out q hq, x5, x6⟩
        · rw [if_neg cf, if_neg cf]
          obtain ⟨F, rfl⟩ : ∃ F', F = F' + 1 := ⟨F - 1, by omega⟩
          refine ⟨g3, ?_, F3, G3, out, f3, fun e => absurd e cf⟩
          show fX11_items_c41b N o (fX11_items_c41 N o F) _ _ _ _ g3 = _
          unfold fX11_items_c41b
          rw [f3, zw_m1, zw_id (show -2147483648 ≤ nbf n b (P + 1) (loI k i) (hiI k i) ∧ nbf n b (P + 1) (loI k i) (hiI k i) < 2147483648 by omega), if_neg cf]
