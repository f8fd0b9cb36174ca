/-! orders are read by the model -/
theorem sg_hi {n p : Nat} {b : Nat → Nat} (T : TV n b) : -1 ≤ sg n b p ∧ sg n b p ≤ 255 := sg_b T
theorem figM {n : Nat} {b : Nat → Nat} (T : TV n b) {N : Nat} (hN : 300 ≤ N) {g : zH} (H : TMo n b g) {p : Nat} (hp : p ≤ n) (hpl : g 14 3 = (p : Int)) (hf : g 14 4 = -1) : ∃ g' v, fX11_figure N g = some (v, g') ∧ FR [14] g g' ∧ FS 14 [3, 4] g g' ∧ g' 14 3 = ((dgt n b p).1 : Int) ∧ g' 14 4 = (dgt n b p).2.2 ∧ ((dgt n b p).2.2 = -1 → v = (dgt n b p).2.1) := by
  have n240 := T.1
  obtain ⟨g1, e1, e2, e3, e4⟩ := lookM T hN H (show p < 100000 by omega) hpl
  have sk := skp_b (b := b) hp
  have hf1 : g1 14 4 = -1 := by rw [e3 4 (by decide)]; exact hf
  have G1 : FS 14 [3, 4] g g1 := fun q hq => e3 q (fun e => hq (by rw [List.mem_singleton.mp e]; decide))
  unfold fX11_figure dgt
  rw [hf, if_pos rfl, e1, z2_some, isDM (sg_w T)]
  by_cases c : 48 ≤ sg n b (skp n b p) ∧ sg n b (skp n b p) ≤ 57
  · rw [if_pos c, if_pos c, if_neg (show ¬ zw 1 = 0 by decide), hereM T (TM_to H (G1 2 (by decide)) (e2 49 (by decide))) e4 (by omega), zb_some, zlet_v, e4]
    exact ⟨_, _, rfl, FR_tr e2 (fun b hb => zs_row_ne (fun e => hb (by rw [e]; decide))), FS_tr G1 (fun q hq => zs_ne (fun e => hq (by rw [e]; decide))), zs_at, by rw [zs_ne (by decide)]; exact hf1, fun _ => rfl⟩
  · rw [if_neg c, if_neg c, if_pos zw_0, badM hf1, zlet_v, e4]
    refine ⟨_, _, rfl, FR_tr e2 (fun b hb => zs_row_ne (fun e => hb (by rw [e]; decide))), FS_tr G1 (fun q hq => zs_ne (fun e => hq (by rw [e]; decide))), by rw [zs_ne (by decide)]; exact e4, zs_at, fun hc => ?_⟩
    have : ((skp n b p : Nat) : Int) = -1 := hc
    omega
theorem figMf {N : Nat} {g : zH} {f : Int} (hf : g 14 4 = f) (hfb : 0 ≤ f ∧ f ≤ 1000) : fX11_figure N g = some (0, g) := by
  unfold fX11_figure
  rw [hf, if_neg (show ¬ zw f = zw (-1) by rw [zw_id (show -2147483648 ≤ f ∧ f < 2147483648 by omega), zw_m1]; omega)]
theorem stM {n : Nat} {b : Nat → Nat} (T : TV n b) {N : Nat} (hN : 300 ≤ N) {g : zH} (H : TMo n b g) {p A : Nat} (hp : p ≤ n) (hpl : g 14 3 = (p : Int)) (hf : g 14 4 = -1) (hA : A + 2 < 240) : ∃ g', fX11_stepText N (A : Int) g = some g' ∧ FR [14, 67] g g' ∧ FS 14 [3, 4] g g' ∧ FS 67 [A, A + 1, A + 2] g g' ∧ g' 14 4 = (oSt n b p).2.2.2.2 ∧ (∃ q : Nat, g' 14 3 = (q : Int) ∧ q ≤ n) ∧ ((oSt n b p).2.2.2.2 = -1 → g' 14 3 = ((oSt n b p).1 : Int) ∧ g' 67 A = (oSt n b p).2.1 ∧ g' 67 (A + 1) = (oSt n b p).2.2.1 ∧ g' 67 (A + 2) = (oSt n b p).2.2.2.1) := by
  have n240 := T.1
  obtain ⟨g1, e1, e2, e3, e4⟩ := lookM T hN H (show p < 100000 by omega) hpl
  obtain ⟨sk1, sk2, sk3⟩ := skp_b (b := b) hp
  have hf1 : g1 14 4 = -1 := by rw [e3 4 (by decide)]; exact hf
  have F1 : FR [14, 67] g g1 := FR_up e2 (by decide)
  have G1 : FS 14 [3, 4] g g1 := fun q hq => e3 q (fun e => hq (by rw [List.mem_singleton.mp e]; decide))
  have a0 : zw (A : Int) = ((A : Nat) : Int) := zw_id (by omega)
  have a1 : zw ((A : Int) + 1) = ((A + 1 : Nat) : Int) := by rw [zw_id (by omega)]; rfl
  have a2 : zw ((A : Int) + 2) = ((A + 2 : Nat) : Int) := by rw [zw_id (by omega)]; rfl
  unfold fX11_stepText
  rw [e1, z2_some, sg_w T, show zw 102 = 102 by decide, show zw 119 = 119 by decide, show zw 104 = 104 by decide]
  -- the place put
  have put : ∀ (s : Int) (hs : 0 ≤ s ∧ s ≤ 2) (hl : skp n b p < n), ∃ g2, fX11_stepText_c36 N (A : Int) s g1 = (if zw 2 ≤ zw s then
      if 0 ≤ zw ((A : Int) + 1) ∧ zw ((A : Int) + 1) < 240 then
      zlet (zs g2 67 (zw ((A : Int) + 1)).toNat (-1)) fun h8 =>
      if zw s = 0 then
        z2 (fX11_figure N h8) fun v11 h10 =>
        if 0 ≤ zw ((A : Int) + 2) ∧ zw ((A : Int) + 2) < 240 then
        zlet (zs h10 67 (zw ((A : Int) + 2)).toNat v11) fun h13 =>
        some h13 else none
      else
        if 0 ≤ zw ((A : Int) + 2) ∧ zw ((A : Int) + 2) < 240 then
        zlet (zs h8 67 (zw ((A : Int) + 2)).toNat (-1)) fun h15 =>
        some h15 else none else none
    else
      z2 (fX11_figure N g2) fun v17 h16 =>
      if 0 ≤ zw ((A : Int) + 1) ∧ zw ((A : Int) + 1) < 240 then
      zlet (zs h16 67 (zw ((A : Int) + 1)).toNat v17) fun h19 =>
      if zw s = 0 then
        z2 (fX11_figure N h19) fun v22 h21 =>
        if 0 ≤ zw ((A : Int) + 2) ∧ zw ((A : Int) + 2) < 240 then
        zlet (zs h21 67 (zw ((A : Int) + 2)).toNat v22) fun h24 =>
        some h24 else none
      else
        if 0 ≤ zw ((A : Int) + 2) ∧ zw ((A : Int) + 2) < 240 then
        zlet (zs h19 67 (zw ((A : Int) + 2)).toNat (-1)) fun h26 =>
        some h26 else none else none) ∧ FR [14, 67] g g2 ∧ FS 14 [3, 4] g g2 ∧ FS 67 [A, A + 1, A + 2] g g2 ∧ g2 14 3 = ((skp n b p + 1 : Nat) : Int) ∧ g2 14 4 = -1 ∧ g2 67 A = s := by
    intro s hs hl
    refine ⟨zs (zs g1 14 3 (g1 14 3 + 1)) 67 A s, ?_, FR_tr F1 (fun b hb => by rw [zs_row_ne (fun e => hb (by rw [e]; decide)), zs_row_ne (fun e => hb (by rw [e]; decide))]), FS_tr G1 (fun q hq => by rw [zs_row_ne (by decide), zs_ne (fun e => hq (by rw [e]; decide))]), fun q hq => by rw [zs_ne (fun e => hq (by rw [e]; exact List.mem_cons_self ..)), zs_row_ne (by decide), e2 67 (by decide)], by rw [zs_row_ne (by decide), zs_at, e4]; rfl, by rw [zs_row_ne (by decide), zs_ne (by decide)]; exact hf1, zs_at⟩
    have hs' : ¬ zw s = zw (-1) := by rw [zw_id (show -2147483648 ≤ s ∧ s < 2147483648 by omega), zw_m1]; omega
    have e : fX11_stepText_c36 N (A : Int) s g1 = if zw s = zw (-1) then _ else if 0 ≤ zw (A : Int) ∧ zw (A : Int) < 240 then _ else none := rfl
    rw [e, if_neg hs', if_pos (by rw [a0]; omega), a0, Int.toNat_natCast]
    rfl
  have mA : A ∈ [A, A + 1, A + 2] := List.mem_cons_self ..
  have mB : A + 1 ∈ [A, A + 1, A + 2] := List.mem_cons_of_mem _ (List.mem_cons_self ..)
  have mC : A + 2 ∈ [A, A + 1, A + 2] := List.mem_cons_of_mem _ (List.mem_cons_of_mem _ (List.mem_cons_self ..))
  by_cases c0 : sg n b (skp n b p) = 102
  · have hl : skp n b p < n := sg_lt (show sg n b (skp n b p) ≠ -1 by omega)
    obtain ⟨db1, db2, db3, db4, db5⟩ := dgt_b (b := b) (show skp n b p + 1 ≤ n by omega)
    rw [if_pos c0]
    obtain ⟨g2, q0, q1, q2, q3, q4, q5, q6⟩ := put 0 (by decide) hl
    rw [q0, if_neg (show ¬ zw 2 ≤ zw 0 by decide), a1, a2, Int.toNat_natCast, Int.toNat_natCast]
    obtain ⟨g3, v, r1, r2, r3, r4, r5, r6⟩ := figM T hN (TM_to H (q2 2 (by decide)) (q1 49 (by decide))) (show skp n b p + 1 ≤ n by omega) q4 q5
    rw [r1, z2_some, if_pos (by omega), zlet_v, if_pos (show zw 0 = 0 by decide)]
    have p3 : zs g3 67 (A + 1) v 14 3 = ((dgt n b (skp n b p + 1)).1 : Int) := by rw [zs_row_ne (by decide)]; exact r4
    have f3 : zs g3 67 (A + 1) v 14 4 = (dgt n b (skp n b p + 1)).2.2 := by rw [zs_row_ne (by decide)]; exact r5
    have F3 : FR [14, 67] g (zs g3 67 (A + 1) v) := FR_tr q1 (FR_tr (FR_up r2 (by decide)) (fun b hb => zs_row_ne (fun e => hb (by rw [e]; decide))))
    have G3 : FS 14 [3, 4] g (zs g3 67 (A + 1) v) := FS_tr q2 (FS_tr r3 (fun q hq => by rw [zs_row_ne (by decide)]))
    have K3 : FS 67 [A, A + 1, A + 2] g (zs g3 67 (A + 1) v) := FS_tr q3 (fun q hq => by rw [zs_ne (fun e => hq (by rw [e]; exact mB)), r2 67 (by decide)])
    have k3 : zs g3 67 (A + 1) v 67 A = 0 := by rw [zs_ne (by omega), r2 67 (by decide)]; exact q6
    by_cases cf : (dgt n b (skp n b p + 1)).2.2 = -1
    · have eo : oSt n b p = ((dgt n b (dgt n b (skp n b p + 1)).1).1, 0, (dgt n b (skp n b p + 1)).2.1, (dgt n b (dgt n b (skp n b p + 1)).1).2.1, (dgt n b (dgt n b (skp n b p + 1)).1).2.2) := by
        unfold oSt
        rw [if_pos c0, if_pos cf]
      rw [eo]
      rw [cf] at f3
      obtain ⟨eb1, eb2, eb3, eb4, eb5⟩ := dgt_b (b := b) db1
      obtain ⟨g4, w, u1, u2, u3, u4, u5, u6⟩ := figM T hN (TM_to H (G3 2 (by decide)) (F3 49 (by decide))) db1 p3 f3
      rw [u1, z2_some, if_pos (by omega), zlet_v]
      refine ⟨_, rfl, FR_tr F3 (FR_tr (FR_up u2 (by decide)) (fun b hb => zs_row_ne (fun e => hb (by rw [e]; decide)))), FS_tr G3 (FS_tr u3 (fun q hq => by rw [zs_row_ne (by decide)])), FS_tr K3 (fun q hq => by rw [zs_ne (fun e => hq (by rw [e]; exact mC)), u2 67 (by decide)]), by rw [zs_row_ne (by decide)]; exact u5, ⟨_, by rw [zs_row_ne (by decide)]; exact u4, eb1⟩, fun hc => ⟨by rw [zs_row_ne (by decide)]; exact u4, by rw [zs_ne (by omega), u2 67 (by decide)]; exact k3, by rw [zs_ne (by omega), u2 67 (by decide), zs_at]; exact r6 cf, by rw [zs_at]; exact u6 hc⟩⟩
    · have eo : oSt n b p = ((dgt n b (skp n b p + 1)).1, 0, -1, -1, (dgt n b (skp n b p + 1)).2.2) := by
        unfold oSt
        rw [if_pos c0, if_neg cf]
      rw [eo, figMf f3 (by omega), z2_some, if_pos (by omega), zlet_v]
      exact ⟨_, rfl, FR_tr F3 (fun b hb => zs_row_ne (fun e => hb (by rw [e]; decide))), FS_tr G3 (fun q hq => by rw [zs_row_ne (by decide)]), FS_tr K3 (fun q hq => zs_ne (fun e => hq (by rw [e]; exact mC))), by rw [zs_row_ne (by decide)]; exact f3, ⟨_, by rw [zs_row_ne (by decide)]; exact p3, db1⟩, fun hc => absurd hc cf⟩
  · rw [if_neg c0]
    by_cases c1 : sg n b (skp n b p) = 119
    · have hl : skp n b p < n := sg_lt (show sg n b (skp n b p) ≠ -1 by omega)
      obtain ⟨db1, db2, db3, db4, db5⟩ := dgt_b (b := b) (show skp n b p + 1 ≤ n by omega)
      have eo : oSt n b p = ((dgt n b (skp n b p + 1)).1, 1, (dgt n b (skp n b p + 1)).2.1, -1, (dgt n b (skp n b p + 1)).2.2) := by
        unfold oSt
        rw [if_neg c0, if_pos c1]
      rw [if_pos c1, eo]
      obtain ⟨g2, q0, q1, q2, q3, q4, q5, q6⟩ := put 1 (by decide) hl
      rw [q0, if_neg (show ¬ zw 2 ≤ zw 1 by decide), a1, a2, Int.toNat_natCast, Int.toNat_natCast]
      obtain ⟨g3, v, r1, r2, r3, r4, r5, r6⟩ := figM T hN (TM_to H (q2 2 (by decide)) (q1 49 (by decide))) (show skp n b p + 1 ≤ n by omega) q4 q5
      rw [r1, z2_some, if_pos (by omega), zlet_v, if_neg (show ¬ zw 1 = 0 by decide), if_pos (by omega), zlet_v]
      refine ⟨_, rfl, FR_tr q1 (FR_tr (FR_up r2 (by decide)) (fun b hb => by rw [zs_row_ne (fun e => hb (by rw [e]; decide)), zs_row_ne (fun e => hb (by rw [e]; decide))])), FS_tr q2 (FS_tr r3 (fun q hq => by rw [zs_row_ne (by decide), zs_row_ne (by decide)])), FS_tr q3 (fun q hq => by rw [zs_ne (fun e => hq (by rw [e]; exact mC)), zs_ne (fun e => hq (by rw [e]; exact mB)), r2 67 (by decide)]), by rw [zs_row_ne (by decide), zs_row_ne (by decide)]; exact r5, ⟨_, by rw [zs_row_ne (by decide), zs_row_ne (by decide)]; exact r4, db1⟩, fun hc => ⟨by rw [zs_row_ne (by decide), zs_row_ne (by decide)]; exact r4, by rw [zs_ne (by omega), zs_ne (by omega), r2 67 (by decide)]; exact q6, by rw [zs_ne (by omega), zs_at]; exact r6 hc, zs_at⟩⟩
    · rw [if_neg c1]
      by_cases c2 : sg n b (skp n b p) = 104
      · have hl : skp n b p < n := sg_lt (show sg n b (skp n b p) ≠ -1 by omega)
        have eo : oSt n b p = (skp n b p + 1, 2, -1, -1, -1) := by
          unfold oSt
          rw [if_neg c0, if_neg c1, if_pos c2]
        rw [if_pos c2, eo]
        obtain ⟨g2, q0, q1, q2, q3, q4, q5, q6⟩ := put 2 (by decide) hl
        rw [q0, if_pos (show zw 2 ≤ zw 2 by decide), a1, a2, Int.toNat_natCast, Int.toNat_natCast, if_pos (by omega), zlet_v, if_neg (show ¬ zw 2 = 0 by decide), if_pos (by omega), zlet_v]
        refine ⟨_, rfl, FR_tr q1 (fun b hb => by rw [zs_row_ne (fun e => hb (by rw [e]; decide)), zs_row_ne (fun e => hb (by rw [e]; decide))]), FS_tr q2 (fun q hq => by rw [zs_row_ne (by decide), zs_row_ne (by decide)]), FS_tr q3 (fun q hq => by rw [zs_ne (fun e => hq (by rw [e]; exact mC)), zs_ne (fun e => hq (by rw [e]; exact mB))]), by rw [zs_row_ne (by decide), zs_row_ne (by decide)]; exact q5, ⟨_, by rw [zs_row_ne (by decide), zs_row_ne (by decide)]; exact q4, by omega⟩, fun hc => ⟨by rw [zs_row_ne (by decide), zs_row_ne (by decide)]; exact q4, by rw [zs_ne (by omega), zs_ne (by omega)]; exact q6, by rw [zs_ne (by omega), zs_at], zs_at⟩⟩
      · have eo : oSt n b p = (skp n b p, -1, -1, -1, (skp n b p : Int)) := by
          unfold oSt
          rw [if_neg c0, if_neg c1, if_neg c2]
        rw [if_neg c2, eo]
        unfold fX11_stepText_c36
        rw [if_pos rfl, badM hf1, zlet_v, e4]
        refine ⟨_, rfl, FR_tr F1 (fun b hb => zs_row_ne (fun e => hb (by rw [e]; decide))), FS_tr G1 (fun q hq => zs_ne (fun e => hq (by rw [e]; decide))), fun q hq => by rw [zs_row_ne (by decide), e2 67 (by decide)], zs_at, ⟨_, by rw [zs_ne (by decide)]; exact e4, sk2⟩, fun hc => ?_⟩
        have : ((skp n b p : Nat) : Int) = -1 := hc
        omega
