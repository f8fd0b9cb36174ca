/-! all clauses of a hill, the model's -/
def hWM (N : Nat) (g : zH) : Option (Int × zH) := zb (fX11_isWhole N g) fun v5 => if zw v5 = 0 then zlet (fX11_bad g) fun h7 => some (h7 14 4, h7) else some (g 14 4, g)
theorem sg_end {n e : Nat} {b : Nat → Nat} (h : sg n b e = -1) (he : e ≤ n) : e = n := by
  by_cases c : e < n
  · unfold sg at h
    rw [if_pos c] at h
    omega
  · omega
theorem c271M {N : Nat} {K : Int → Int → zH → Option (Int × zH)} {l : Int} {g : zH} (hf : ¬ zw (g 14 4) = zw (-1)) : fX11_readHill_c271 N K l g = K l 0 (zs g 14 3 (g 14 3 + 0)) := by
  unfold fX11_readHill_c271
  rw [if_neg hf, if_pos zw_0]
  rfl
theorem loopHM {n : Nat} {b : Nat → Nat} (T : TV n b) {N : Nat} (hN : 300 ≤ N) {g : zH} (H : TMo n b g) (m : Nat) : ∀ (p F : Nat) (ct : Nat → Nat) (t : Nat → Int) (s : zH), n < p + 2 * m → m + 1 < F → p ≤ n → DV ct → FR [14, 59, 60, 61, 62] g s → FS 14 [3, 4, 21, 22, 23] g s → s 14 3 = (p : Int) → s 14 4 = -1 → DM ct t s → ∃ g', fX11_readHill_c53 N F (ct 0 : Int) 1 s = (if (hR n b m p ct t).1 = -1 then hWM N g' else some ((hR n b m p ct t).1, g')) ∧ FR [14, 59, 60, 61, 62] g g' ∧ FS 14 [3, 4, 21, 22, 23] g g' ∧ ((hR n b m p ct t).1 = -1 → g' 14 4 = -1 ∧ g' 14 3 = (n : Int) ∧ DV (hR n b m p ct t).2.1 ∧ DM (hR n b m p ct t).2.1 (hR n b m p ct t).2.2 g') := by
  have n240 := T.1
  induction m with
  | zero => intro p F ct t s h1 h2 h3; omega
  | succ m ih =>
    intro p F ct t s h1 h2 hp V F1 G1 hpl hf D
    obtain ⟨F, rfl⟩ : ∃ F', F = F' + 2 := ⟨F - 2, by omega⟩
    have fb := clF_b (b := b) (ct := ct) hp
    obtain ⟨s1, l1, r0, r1, r2, r3, r4⟩ := clauseM (K := fX11_readHill_c53 N (F + 1)) T hN V (TM_to H (G1 2 (by decide)) (F1 49 (by decide))) D hp hpl hf
    have F2 := FR_tr F1 r1
    have G2 := FS_tr G1 r2
    have T2 : TMo n b s1 := TM_to H (G2 2 (by decide)) (F2 49 (by decide))
    show ∃ g', fX11_readHill_c53b N (fX11_readHill_c53 N (F + 1)) (ct 0 : Int) 1 s = _ ∧ _
    rw [r0]
    by_cases cf : clF n b p ct = -1
    · obtain ⟨y0, y1, y2⟩ := r4 cf
      obtain ⟨z1, z2, z3⟩ := clE_b hp cf
      have hf1 : s1 14 4 = -1 := by rw [r3]; exact cf
      obtain ⟨s2, e1, e2, e3, e4⟩ := lookM T hN T2 (show clE n b p < 100000 by omega) y1
      have sk := skp_b (b := b) z2
      have eh : skp n b (clE n b p) = hEn n b p := rfl
      rw [eh] at e1 e4
      have F3 : FR [14, 59, 60, 61, 62] g s2 := FR_tr F2 (FR_up e2 (by decide))
      have G3 : FS 14 [3, 4, 21, 22, 23] g s2 := FS_tr G2 (fun q hq => e3 q (fun e => hq (by rw [List.mem_singleton.mp e]; decide)))
      have hf2 : s2 14 4 = -1 := by rw [e3 4 (by decide)]; exact hf1
      have DMto : ∀ s' : zH, FR [14] s2 s' → FS 14 [3] s2 s' → DM (clC n b p ct) (clT n b p ct t) s' := fun s' a1 a2 => by
        refine ⟨?_, fun k i j hk hi hj => ?_⟩
        · rw [a2 21 (by decide), a2 22 (by decide), a2 23 (by decide), e3 21 (by decide), e3 22 (by decide), e3 23 (by decide)]; exact y2.1
        · rw [a1 (59 + k) (fun e => by have := List.mem_singleton.mp e; omega), e2 (59 + k) (fun e => by have := List.mem_singleton.mp e; omega)]; exact y2.2 k i j hk hi hj
      unfold fX11_readHill_c271
      rw [hf1, if_pos (show zw (-1) = zw (-1) from rfl), e1, z2_some, sg_w T, show zw 59 = 59 by decide, y0]
      by_cases c59 : sg n b (hEn n b p) = 59
      · have hlt : hEn n b p < n := sg_lt (show sg n b (hEn n b p) ≠ -1 by omega)
        have hge : p + 1 ≤ hEn n b p := by have := sk.1; omega
        have eR : hR n b (m + 1) p ct t = hR n b m (hEn n b p + 1) (clC n b p ct) (clT n b p ct t) := by
          show (if clF n b p ct = -1 then _ else _) = _
          rw [if_pos cf, if_pos c59]
        rw [eR, if_pos c59, if_neg (show ¬ zw 1 = 0 by decide), zlet_v, e4]
        exact ih (hEn n b p + 1) (F + 1) _ _ _ (by omega) (by omega) (by omega) (DV_1 V z3) (FR_tr F3 (fun b hb => zs_row_ne (fun e => hb (by rw [e]; decide)))) (FS_tr G3 (fun q hq => zs_ne (fun e => hq (by rw [e]; decide)))) (by rw [zs_at]; rfl) (by rw [zs_ne (by decide)]; exact hf2) (DMto _ (fun b hb => zs_row_ne (fun e => hb (by rw [e]; decide))) (fun q hq => zs_ne (fun e => hq (by rw [e]; decide))))
      · have eR : hR n b (m + 1) p ct t = (if sg n b (hEn n b p) = -1 then -1 else (hEn n b p : Int), clC n b p ct, clT n b p ct t) := by
          show (if clF n b p ct = -1 then _ else _) = _
          rw [if_pos cf, if_neg c59]
        rw [eR, if_neg c59, if_pos zw_0, zlet_v, e4]
        obtain ⟨s3, es3⟩ : ∃ s3, s3 = zs s2 14 3 ((hEn n b p : Int) + 0) := ⟨_, rfl⟩
        rw [← es3]
        have A1 : FR [14] s2 s3 := by rw [es3]; exact fun b hb => zs_row_ne (fun e => hb (by rw [e]; decide))
        have A2 : FS 14 [3] s2 s3 := by rw [es3]; exact fun q hq => zs_ne (fun e => hq (by rw [e]; decide))
        have p3 : s3 14 3 = (hEn n b p : Int) := by rw [es3, zs_at]; omega
        have f3 : s3 14 4 = -1 := by rw [A2 4 (by decide)]; exact hf2
        have F4 := FR_tr F3 (FR_up A1 (show ∀ b ∈ [14], b ∈ [14, 59, 60, 61, 62] by decide))
        have G4 : FS 14 [3, 4, 21, 22, 23] g s3 := FS_tr G3 (fun q hq => A2 q (fun e => hq (by rw [List.mem_singleton.mp e]; decide)))
        obtain ⟨s4, w1, w2, w3, w4⟩ := lookM T hN (TM_to H (G4 2 (by decide)) (F4 49 (by decide))) (show hEn n b p < 100000 by have := sk.2.1; omega) p3
        have ei : skp n b (hEn n b p) = hEn n b p := skp_i z2
        rw [ei] at w1 w4
        have f4 : s4 14 4 = -1 := by rw [w3 4 (by decide)]; exact f3
        have F5 := FR_tr F4 (FR_up w2 (show ∀ b ∈ [14], b ∈ [14, 59, 60, 61, 62] by decide))
        have G5 : FS 14 [3, 4, 21, 22, 23] g s4 := FS_tr G4 (fun q hq => w3 q (fun e => hq (by rw [List.mem_singleton.mp e]; decide)))
        show ∃ g', fX11_readHill_c53b N (fX11_readHill_c53 N F) _ 0 s3 = _ ∧ _
        unfold fX11_readHill_c53b fX11_readHill_c315
        rw [if_pos zw_0, f3, if_pos (show zw (-1) = zw (-1) from rfl), w1, z2_some, sg_w T, zw_m1]
        by_cases ce : sg n b (hEn n b p) = -1
        · rw [if_pos ce]
          simp only [if_pos ce]
          have en := sg_end ce sk.2.1
          refine ⟨s4, rfl, F5, G5, fun _ => ⟨f4, by rw [w4, en], DV_1 V z3, DMto s4 (FR_tr A1 w2) (FS_tr A2 w3)⟩⟩
        · rw [if_neg ce]
          simp only [if_neg ce]
          have h0 : ¬ ((hEn n b p : Nat) : Int) = -1 := by omega
          simp only [if_neg h0]
          rw [badM f4, zlet_v, zs_at, w4]
          exact ⟨_, rfl, FR_tr F5 (fun b hb => zs_row_ne (fun e => hb (by rw [e]; decide))), FS_tr G5 (fun q hq => zs_ne (fun e => hq (by rw [e]; decide))), fun h => absurd h h0⟩
    · have zf : zw (s1 14 4) = clF n b p ct := by rw [r3]; exact zw_id (by omega)
      rw [c271M (by rw [zf, zw_m1]; exact cf)]
      have eR : hR n b (m + 1) p ct t = (clF n b p ct, ct, t) := by
        show (if clF n b p ct = -1 then _ else _) = _
        rw [if_neg cf]
      rw [eR]
      simp only [if_neg cf]
      show ∃ g', fX11_readHill_c53b N (fX11_readHill_c53 N F) _ 0 _ = _ ∧ _
      unfold fX11_readHill_c53b fX11_readHill_c315
      rw [if_pos zw_0, zs_ne (by decide), zf, zw_m1, if_neg cf, r3]
      exact ⟨_, rfl, FR_tr F2 (fun b hb => zs_row_ne (fun e => hb (by rw [e]; decide))), FS_tr G2 (fun q hq => zs_ne (fun e => hq (by rw [e]; decide))), fun h => absurd h cf⟩
