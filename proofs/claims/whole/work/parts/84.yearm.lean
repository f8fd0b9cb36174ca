/-! years of the reference -/
theorem yearM {np nd nr B : Nat} {t : Nat → Nat} {w : hW} {g : zH} (V : HV np nd nr t) (O : WOK np nd nr t w) (H : MW np nd nr t B w g) (hB : B < 900000000) {N : Nat} (hN : 6600 ≤ N) {gr : hGr} (G : GM N gr g) {ec : Int} (hec : g 14 36 = ec ∧ 0 ≤ ec ∧ ec ≤ 99) {x y : Int} (hx : zw x = x) : (¬ wCan np 240 x w → fX11_years N x y g = some (-1, g)) ∧ (wCan np 240 x w → ∃ g', fX11_years N x y g = some ((aT (wYrN np nd nr t gr ec (w, y) x.toNat).1.1 : Int), g') ∧ FR [14, 57, 58, 69, 70] g g' ∧ FS 14 [38, 40, 41, 42, 47] g g' ∧ MW np nd nr t (B + 1440) (wYrN np nd nr t gr ec (w, y) x.toNat).1 g') := by
  have v := V.1
  have v0 := V.2.2.1
  obtain ⟨c1, c2⟩ := areHM V O H hx (most := 240) (by decide)
  refine ⟨fun hc => ?_, fun hc => ?_⟩
  · unfold fX11_years
    rw [c2 hc, zif0]
  · have hc' := hc
    obtain ⟨h0, h1, h2, h3⟩ := hc
    obtain ⟨n, rfl⟩ := Int.eq_ofNat_of_zero_le (show 0 ≤ x by omega)
    rw [Int.toNat_natCast]
    unfold fX11_years
    rw [c1 hc', zif1, zlet_v]
    have F0 : FR [14, 57, 58, 69, 70] g (zs g 14 47 y) := fun b hb => zs_row_ne (fun e => hb (by rw [e]; decide))
    have F00 : FS 14 [38, 40, 41, 42, 47] g (zs g 14 47 y) := fun j hj => zs_ne (fun e => hj (by rw [e]; decide))
    refine zloopq (F := fun k i (s : zH) => fX11_years_c21 N k (n : Int) i s) (n := n) (s := zs g 14 47 y) (fun i s => FR [14, 57, 58, 69, 70] g s ∧ FS 14 [38, 40, 41, 42, 47] g s ∧ s 14 47 = (wYrN np nd nr t gr ec (w, y) i).2 ∧ MW np nd nr t (B + 6 * i) (wYrN np nd nr t gr ec (w, y) i).1 s) (fun b => ∃ g', b = some ((aT (wYrN np nd nr t gr ec (w, y) n).1.1 : Int), g') ∧ FR [14, 57, 58, 69, 70] g g' ∧ FS 14 [38, 40, 41, 42, 47] g g' ∧ MW np nd nr t (B + 1440) (wYrN np nd nr t gr ec (w, y) n).1 g') (fun k i s hi hI => ?_) (fun k s hI => ?_) (by omega) ⟨F0, F00, zs_at, MW_F H (L := [14]) (J := [47]) (fun b hb => zs_row_ne (fun e => hb (by rw [e]; decide))) (fun j hj => zs_ne (fun e => hj (by rw [e]; decide))) (by decide) (by decide)⟩
    · obtain ⟨i1, i2, ix, i3⟩ := hI
      obtain ⟨o1, o2⟩ := wYrN_OK (gr := gr) (ec := ec) (x := y) V O i (by omega)
      have Ok := WOK_keep o1
      obtain ⟨hk, e1, e2, e2', e3⟩ := MW_keep V o1 i3 hN
      have F5 : FS 14 [38, 40, 41, 42, 47] g hk := FS_tr i2 (fun j hj => e2' j (fun e => hj (by rw [List.mem_singleton.mp e]; decide)))
      have F : FR [14, 57, 58, 69, 70] g hk := FR_tr i1 (FR_up e2 (by decide))
      have xk : hk 14 47 = (wYrN np nd nr t gr ec (w, y) i).2 := by rw [e2' 47 (by decide)]; exact ix
      generalize hS : wYrN np nd nr t gr ec (w, y) i = S at *
      have eS : wYrN np nd nr t gr ec (w, y) (i + 1) = ((aPass np nd t gr (yDark t ec (aYr t nr (S.1.1, S.2) np)) (aYr t nr (S.1.1, S.2) np).1, wKeep S.1.1 S.1.2), yNext t (aYr t nr (S.1.1, S.2) np)) := by
        exact congrArg (wYs np nd nr t gr ec) hS
      left
      have inner : ∃ h4, fX11_years_c34 N (fX11_years_c21 N k) N (n : Int) (i : Int) 0 hk = fX11_years_c21 N k (n : Int) ((i + 1 : Nat) : Int) h4 ∧ FR [14, 57, 58, 69, 70] g h4 ∧ FS 14 [38, 40, 41, 42, 47] g h4 ∧ h4 14 47 = yNext t (aYr t nr (S.1.1, S.2) np) ∧ MW np nd nr t (B + 6 * i + 6) (aPass np nd t gr (yDark t ec (aYr t nr (S.1.1, S.2) np)) (aYr t nr (S.1.1, S.2) np).1, wKeep S.1.1 S.1.2) h4 := by
        refine zloopq (F := fun k' j (s : zH) => fX11_years_c34 N (fX11_years_c21 N k) k' (n : Int) (i : Int) j s) (n := np) (s := hk) (fun j s => FR [14, 57, 58, 69, 70] g s ∧ FS 14 [38, 40, 41, 42, 47] g s ∧ s 14 47 = (aYr t nr (S.1.1, S.2) j).2 ∧ MW np nd nr t (B + 6 * i + j) ((aYr t nr (S.1.1, S.2) j).1, wKeep S.1.1 S.1.2) s) (fun b => ∃ h4, b = fX11_years_c21 N k (n : Int) ((i + 1 : Nat) : Int) h4 ∧ FR [14, 57, 58, 69, 70] g h4 ∧ FS 14 [38, 40, 41, 42, 47] g h4 ∧ h4 14 47 = yNext t (aYr t nr (S.1.1, S.2) np) ∧ MW np nd nr t (B + 6 * i + 6) (aPass np nd t gr (yDark t ec (aYr t nr (S.1.1, S.2) np)) (aYr t nr (S.1.1, S.2) np).1, wKeep S.1.1 S.1.2) h4) (fun k' j s hj hJ => ?_) (fun k' s hJ => ?_) (by omega) ⟨F, F5, xk, e3⟩
        · obtain ⟨j1, j2, jx, j3⟩ := hJ
          obtain ⟨p1, p2⟩ := aYr_OK (x := S.2) V Ok (Nat.le_of_lt hj)
          have hz := (V.2.2.2.1 j hj).2.2
          have C5 : MW np nd nr t (B + 6 * i + j) ((aYr t nr (S.1.1, S.2) j).1, wKeep S.1.1 S.1.2) (zs s 14 47 (dx (aYr t nr (S.1.1, S.2) j).2)) := MW_F j3 (L := [14]) (J := [47]) (fun b hb => zs_row_ne (fun e => hb (by rw [e]; decide))) (fun q hq => zs_ne (fun e => hq (by rw [e]; decide))) (by decide) (by decide)
          have F1 : FR [14, 57, 58, 69, 70] g (zs s 14 47 (dx (aYr t nr (S.1.1, S.2) j).2)) := FR_tr j1 (fun b hb => zs_row_ne (fun e => hb (by rw [e]; decide)))
          have F2 : FS 14 [38, 40, 41, 42, 47] g (zs s 14 47 (dx (aYr t nr (S.1.1, S.2) j).2)) := FS_tr j2 (fun q hq => zs_ne (fun e => hq (by rw [e]; decide)))
          have ez : zs s 14 47 (dx (aYr t nr (S.1.1, S.2) j).2) 64 (3 * j + 2) = t (34 + 4 * j) := (C5.1.2.2.1 j 2 hj (by decide)).trans (by rw [show 32 + 4 * j + 2 = 34 + 4 * j by omega])
          left
          have e : fX11_years_c34 N (fX11_years_c21 N k) (k' + 1) (n : Int) (i : Int) (j : Int) s = if idl t (aYr t nr (S.1.1, S.2) j).1 j = true then (if (t (34 + 4 * j) : Int) ≤ zw (dv (aYr t nr (S.1.1, S.2) j).2 10) then fX11_years_c34 N (fX11_years_c21 N k) k' (n : Int) (i : Int) ((j + 1 : Nat) : Int) (zs s 14 47 (dx (aYr t nr (S.1.1, S.2) j).2)) else zb (fX11_fileSoonest N (j : Int) (zs s 14 47 (dx (aYr t nr (S.1.1, S.2) j).2))) (fun h4 => fX11_years_c34 N (fX11_years_c21 N k) k' (n : Int) (i : Int) ((j + 1 : Nat) : Int) h4)) else fX11_years_c34 N (fX11_years_c21 N k) k' (n : Int) (i : Int) ((j + 1 : Nat) : Int) s := by
            show fX11_years_c34b N (fX11_years_c21 N k) (fX11_years_c34 N (fX11_years_c21 N k) k') _ _ _ _ = _
            unfold fX11_years_c34b
            rw [j3.1.1.1, zw_id (show -2147483648 ≤ (np : Int) ∧ (np : Int) < 2147483648 by omega), zw_id (show -2147483648 ≤ (j : Int) ∧ (j : Int) < 2147483648 by omega), if_neg (by omega), idlM V p1 j3 hj, zb_some, zq, drawM jx (by decide), z2_some, show (3 * (j : Int)) + 2 = ((3 * j + 2 : Nat) : Int) by omega, zw_id (show -2147483648 ≤ ((3 * j + 2 : Nat) : Int) ∧ ((3 * j + 2 : Nat) : Int) < 2147483648 by omega), Int.toNat_natCast, ez, zw_id (show -2147483648 ≤ (t (34 + 4 * j) : Int) ∧ (t (34 + 4 * j) : Int) < 2147483648 by omega)]
            by_cases hid : idl t (aYr t nr (S.1.1, S.2) j).1 j = true
            · rw [if_pos hid, if_pos hid, if_pos (by omega)]; rfl
            · rw [if_neg hid, if_neg hid]; rfl
          have et : aYr t nr (S.1.1, S.2) (j + 1) = if idl t (aYr t nr (S.1.1, S.2) j).1 j = true then (if (t (34 + 4 * j) : Int) ≤ zw (dv (aYr t nr (S.1.1, S.2) j).2 10) then (aYr t nr (S.1.1, S.2) j).1 else fS t nr (aYr t nr (S.1.1, S.2) j).1 j, dx (aYr t nr (S.1.1, S.2) j).2) else aYr t nr (S.1.1, S.2) j := rfl
          rw [et]
          by_cases hid : idl t (aYr t nr (S.1.1, S.2) j).1 j = true
          · rw [if_pos hid] at e ⊢
            by_cases hzz : (t (34 + 4 * j) : Int) ≤ zw (dv (aYr t nr (S.1.1, S.2) j).2 10)
            · rw [if_pos hzz] at e ⊢
              exact ⟨_, e, F1, F2, zs_at, MW_B C5 (by omega)⟩
            · rw [if_neg hzz] at e ⊢
              obtain ⟨h5, f1, f2, f3, f4⟩ := fSM V p1 C5 (show 1100 ≤ N by omega) hj hid
              rw [f1, zb_some] at e
              exact ⟨h5, e, FR_tr F1 (FR_up f2 (by decide)), FS_tr F2 (fun q hq => f3 q (fun e => hq (by simp at e ⊢; omega))), by rw [f3 47 (by decide)]; exact zs_at, f4⟩
          · rw [if_neg hid] at e ⊢
            exact ⟨s, e, j1, j2, jx, MW_B j3 (by omega)⟩
        · obtain ⟨j1, j2, jx, j3⟩ := hJ
          obtain ⟨p1, p2⟩ := aYr_OK (x := S.2) V Ok (Nat.le_refl np)
          have p2' : aT (aYr t nr (S.1.1, S.2) np).1 = aT S.1.1 := p2
          have hT : aT ((aYr t nr (S.1.1, S.2) np).1, wKeep S.1.1 S.1.2).1 < 9999 := by
            show aT (aYr t nr (S.1.1, S.2) np).1 < 9999
            omega
          have fin : ∀ (dark : Bool) (s' : zH) (z : Int), s' 14 47 = z → FR [14, 57, 58, 69, 70] g s' → FS 14 [38, 40, 41, 42, 47] g s' → MW np nd nr t (B + 6 * i + np) ((aYr t nr (S.1.1, S.2) np).1, wKeep S.1.1 S.1.2) s' → ∃ h4, (zb (fX11_pass N (dkI dark) s') fun h2 => fX11_years_c21 N k (n : Int) ((i : Int) + 1) h2) = fX11_years_c21 N k (n : Int) ((i + 1 : Nat) : Int) h4 ∧ FR [14, 57, 58, 69, 70] g h4 ∧ FS 14 [38, 40, 41, 42, 47] g h4 ∧ h4 14 47 = z ∧ MW np nd nr t (B + 6 * i + 6) (aPass np nd t gr dark (aYr t nr (S.1.1, S.2) np).1, wKeep S.1.1 S.1.2) h4 := by
            intro dark s' z hz F1 F2 C5
            obtain ⟨h5, f1, f2, f4⟩ := passMW (dark := dark) V p1 C5 (by omega) (show 200 ≤ N by omega) (GM_F G F1 (F2 35 (by decide)) (by intro b b1 b2 hb; simp at hb; omega)) hT h0
            rw [f1, zb_some]
            exact ⟨h5, rfl, FR_tr F1 (FR_up f2 (by decide)), FS_tr F2 (FS_of f2 (by decide)), by rw [f2 14 (by decide)]; exact hz, MW_B f4 (by omega)⟩
          have htw : aT (aYr t nr (S.1.1, S.2) np).1 % 24 < 24 := Nat.mod_lt _ (by decide)
          show ∃ h4, fX11_years_c34b N (fX11_years_c21 N k) (fX11_years_c34 N (fX11_years_c21 N k) k') _ _ _ _ = _ ∧ _
          unfold fX11_years_c34b fX11_isDawn
          rw [j3.1.1.1, if_pos (by omega), timM (T := aT (aYr t nr (S.1.1, S.2) np).1) j3.2.1.2.1 (by omega), (j3.1.2.1 h0).1, zw_id (show -2147483648 ≤ ((aT (aYr t nr (S.1.1, S.2) np).1 % 24 : Nat) : Int) ∧ ((aT (aYr t nr (S.1.1, S.2) np).1 % 24 : Nat) : Int) < 2147483648 by omega), zw_id (show -2147483648 ≤ (t 0 : Int) ∧ (t 0 : Int) < 2147483648 by omega), zq]
          by_cases hd : aT (aYr t nr (S.1.1, S.2) np).1 % 24 = t 0
          · rw [if_pos (show ((aT (aYr t nr (S.1.1, S.2) np).1 % 24 : Nat) : Int) = (t 0 : Int) by omega)]
            have e14 : zs s 14 47 (dx (aYr t nr (S.1.1, S.2) np).2) 14 36 = ec := by rw [zs_ne (by decide), j2 36 (by decide)]; exact hec.1
            rw [drawM jx (by decide), z2_some, e14, zw_id (show -2147483648 ≤ ec ∧ ec < 2147483648 by omega)]
            have C5 : MW np nd nr t (B + 6 * i + np) ((aYr t nr (S.1.1, S.2) np).1, wKeep S.1.1 S.1.2) (zs s 14 47 (dx (aYr t nr (S.1.1, S.2) np).2)) := MW_F j3 (L := [14]) (J := [47]) (fun b hb => zs_row_ne (fun e => hb (by rw [e]; decide))) (fun q hq => zs_ne (fun e => hq (by rw [e]; decide))) (by decide) (by decide)
            have F1 : FR [14, 57, 58, 69, 70] g (zs s 14 47 (dx (aYr t nr (S.1.1, S.2) np).2)) := FR_tr j1 (fun b hb => zs_row_ne (fun e => hb (by rw [e]; decide)))
            have F2 : FS 14 [38, 40, 41, 42, 47] g (zs s 14 47 (dx (aYr t nr (S.1.1, S.2) np).2)) := FS_tr j2 (fun q hq => zs_ne (fun e => hq (by rw [e]; decide)))
            have eN : yNext t (aYr t nr (S.1.1, S.2) np) = dx (aYr t nr (S.1.1, S.2) np).2 := if_pos hd
            by_cases hz : ec ≤ zw (dv (aYr t nr (S.1.1, S.2) np).2 100)
            · have eD : yDark t ec (aYr t nr (S.1.1, S.2) np) = false := decide_eq_false (fun q => q.2 hz)
              rw [if_pos hz, eD, eN]
              exact fin false _ _ zs_at F1 F2 C5
            · have eD : yDark t ec (aYr t nr (S.1.1, S.2) np) = true := decide_eq_true ⟨hd, hz⟩
              rw [if_neg hz, eD, eN]
              exact fin true _ _ zs_at F1 F2 C5
          · rw [if_neg (show ¬ ((aT (aYr t nr (S.1.1, S.2) np).1 % 24 : Nat) : Int) = (t 0 : Int) by omega)]
            have eN : yNext t (aYr t nr (S.1.1, S.2) np) = (aYr t nr (S.1.1, S.2) np).2 := if_neg hd
            have eD : yDark t ec (aYr t nr (S.1.1, S.2) np) = false := decide_eq_false (fun q => hd q.1)
            rw [eD, eN]
            exact fin false s _ jx j1 j2 j3
      obtain ⟨h4, g1, g2, g3, g4, g7⟩ := inner
      rw [eS]
      refine ⟨h4, ?_, g2, g3, g4, by rw [show B + 6 * (i + 1) = B + 6 * i + 6 by omega]; exact g7⟩
      show fX11_years_c21b N (fX11_years_c21 N k) _ _ _ = _
      unfold fX11_years_c21b
      rw [zw_id (show -2147483648 ≤ (n : Int) ∧ (n : Int) < 2147483648 by omega), zw_id (show -2147483648 ≤ (i : Int) ∧ (i : Int) < 2147483648 by omega), if_neg (by omega), e1, zb_some]
      exact g1
    · obtain ⟨i1, i2, ix, i3⟩ := hI
      refine ⟨s, ?_, i1, i2, MW_B i3 (by omega)⟩
      show fX11_years_c21b N (fX11_years_c21 N k) _ _ _ = _
      unfold fX11_years_c21b
      rw [if_pos (by omega), i3.2.1.2.1]
