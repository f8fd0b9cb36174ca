/-! all clauses of a hill, the class's -/
theorem close_v {N : Nat} {h h' : zH} {v : Int} (e : fX9_close N h = some (v, h')) : h' 1 3 = v := by
  unfold fX9_close at e
  cases hn : fX9_next N h with
  | none => rw [hn] at e; cases e
  | some a =>
    obtain ⟨x, y⟩ := a
    rw [hn, z2_some] at e
    split at e
    · cases e; rfl
    · rw [zlet_v] at e
      cases e; rfl
/-- wholeness is looked at, at the end -/
def hWh (N : Nat) (h : zH) : Option (Int × zH) := z2 (fX1_isWhole N 3 h) fun v6 h5 => if zw v6 = 0 then zlet (fX9_blame (h5 1 1) h5) fun h8 => some (h8 1 3, h8) else some (h5 1 3, h5)
def hJ (n : Nat) (b : Nat → Nat) (h : zH) (p : Nat) (ct : Nat → Nat) (t : Nat → Int) (s : zH) : Prop := FR [1, 19, 20] h s ∧ FS 1 [2, 3] h s ∧ s 1 3 = clF n b p ct ∧ (∃ q : Nat, s 1 2 = (q : Int) ∧ q ≤ n) ∧ (clF n b p ct = -1 → s 1 2 = (clE n b p : Int) ∧ DX (clC n b p ct) (clT n b p ct t) s)
theorem loopHX {n : Nat} {b : Nat → Nat} (T : TV n b) {N : Nat} (hN : 300 ≤ N) {h : zH} (H : TX n b h) (m : Nat) : ∀ (p l F : Nat) (ct : Nat → Nat) (t : Nat → Int) (s : zH), n < p + 2 * m → l + m < 200 → m < F → p ≤ n → DV ct → hJ n b h p ct t s → ∃ h', fX1_read_c25 N 3 F (l : Int) s = (if (hR n b m p ct t).1 = -1 then hWh N h' else some ((hR n b m p ct t).1, h')) ∧ FR [1, 19, 20] h h' ∧ FS 1 [2, 3] h h' ∧ ((hR n b m p ct t).1 = -1 → h' 1 3 = -1 ∧ DV (hR n b m p ct t).2.1 ∧ DX (hR n b m p ct t).2.1 (hR n b m p ct t).2.2 h') := by
  have n240 := T.1
  induction m with
  | zero => intro p l F ct t s h1 h2 h3 h4; omega
  | succ m ih =>
    intro p l F ct t s h1 h2 h3 hp V ⟨F1, G1, f1, ⟨q, q1, q2⟩, I1⟩
    obtain ⟨F, rfl⟩ : ∃ F', F = F' + 1 := ⟨F - 1, by omega⟩
    have fb := clF_b (b := b) (ct := ct) hp
    have T1 : TX n b s := TX_to H (G1 1 (by decide)) (F1 15 (by decide))
    obtain ⟨s1, e1, e2, e3, e4⟩ := nextX T hN T1 q2 q1 f1 (by omega)
    have sk := skp_b (b := b) q2
    have F1' : FR [1, 19, 20] h s1 := FR_tr F1 (FR_up e2 (by decide))
    have G1' : FS 1 [2, 3] h s1 := FS_tr G1 (fun q hq => e3 q (fun e => hq (by rw [List.mem_singleton.mp e]; decide)))
    have f1' : s1 1 3 = clF n b p ct := by rw [e3 3 (by decide)]; exact f1
    obtain ⟨s2, c1, c2, c3⟩ := closeX T hN (TX_to H (G1' 1 (by decide)) (F1' 15 (by decide))) sk.2.1 e4 f1' (by omega)
    rw [skp_i q2] at c1
    have cv := close_v c1
    show ∃ h', fX1_read_c25b N 3 (fX1_read_c25 N 3 F) (l : Int) s = _ ∧ _
    unfold fX1_read_c25b fX9_take
    rw [show zw 240 = 240 by decide, zw_id (show -2147483648 ≤ (l : Int) ∧ (l : Int) < 2147483648 by omega), if_neg (by omega), e1, z2_some]
    -- it is closed here
    have fin : ∀ R : Int × (Nat → Nat) × (Nat → Int), R.1 = (if clF n b p ct = -1 then (if sg n b (skp n b q) = -1 then -1 else (skp n b q : Int)) else clF n b p ct) → (R.1 = -1 → R.2.1 = clC n b p ct ∧ R.2.2 = clT n b p ct t) → ∃ h', (z2 (fX9_close N s1) fun v13 h12 => if zw v13 = zw (-1) then z2 (fX1_isWhole N 3 h12) fun v16 h15 => if zw v16 = 0 then zlet (fX9_blame (h15 1 1) h15) fun h18 => some (h18 1 3, h18) else some (h15 1 3, h15) else some (h12 1 3, h12)) = (if R.1 = -1 then hWh N h' else some (R.1, h')) ∧ FR [1, 19, 20] h h' ∧ FS 1 [2, 3] h h' ∧ (R.1 = -1 → h' 1 3 = -1 ∧ DV R.2.1 ∧ DX R.2.1 R.2.2 h') := by
      intro R hR1 hR2
      rw [c1, z2_some, cv, ← hR1]
      have rb : -1 ≤ R.1 ∧ R.1 ≤ n := by
        rw [hR1]
        split
        · split <;> omega
        · exact fb
      rw [zw_m1, zw_id (show -2147483648 ≤ R.1 ∧ R.1 < 2147483648 by omega)]
      by_cases cr : R.1 = -1
      · rw [if_pos cr]
        refine ⟨s2, by rw [if_pos cr]; rfl, FR_tr F1' (FR_up c2 (by decide)), FS_tr G1' c3, fun _ => ?_⟩
        obtain ⟨x1, x2⟩ := hR2 cr
        have cf : clF n b p ct = -1 := by
          by_cases cf : clF n b p ct = -1
          · exact cf
          · rw [if_neg cf] at hR1
            rw [← hR1]; exact cr
        obtain ⟨y1, y2⟩ := I1 cf
        obtain ⟨z1, z2, z3⟩ := clE_b hp cf
        rw [x1, x2]
        refine ⟨by rw [cv, ← hR1]; exact cr, DV_1 V z3, fun k hk => ?_, fun k i j hk hi hj => ?_⟩
        · rw [c2 20 (by decide), e2 20 (by decide)]; exact y2.1 k hk
        · rw [c2 19 (by decide), e2 19 (by decide)]; exact y2.2 k i j hk hi hj
      · rw [if_neg cr]
        exact ⟨s2, by rw [if_neg cr], FR_tr F1' (FR_up c2 (by decide)), FS_tr G1' c3, fun h => absurd h cr⟩
    by_cases cf : clF n b p ct = -1
    · obtain ⟨y1, y2⟩ := I1 cf
      have eq : q = clE n b p := by omega
      have ee : skp n b q = hEn n b p := by rw [eq]; rfl
      obtain ⟨z1, z2, z3⟩ := clE_b hp cf
      rw [if_pos cf, sg_w T, show zw 59 = 59 by decide, ee]
      by_cases c59 : sg n b (hEn n b p) = 59
      · have hlt : hEn n b p < n := sg_lt (show sg n b (hEn n b p) ≠ -1 by omega)
        have hge : p + 1 ≤ hEn n b p := by have := sk.1; omega
        have eR : hR n b (m + 1) p ct t = hR n b m (hEn n b p + 1) (clC n b p ct) (clT n b p ct t) := by
          show (if clF n b p ct = -1 then _ else _) = _
          rw [if_pos cf, if_pos c59]
        rw [eR, if_pos c59]
        simp only [zlet_v, z2_some]
        rw [if_neg (show ¬ zw 1 = 0 by decide), e4, ee]
        obtain ⟨s3, es3⟩ : ∃ s3, s3 = zs s1 1 2 ((hEn n b p : Int) + 1) := ⟨_, rfl⟩
        rw [← es3]
        have F3 : FR [1, 19, 20] h s3 := by rw [es3]; exact FR_tr F1' (fun b hb => zs_row_ne (fun e => hb (by rw [e]; decide)))
        have G3 : FS 1 [2, 3] h s3 := by rw [es3]; exact FS_tr G1' (fun q hq => zs_ne (fun e => hq (by rw [e]; decide)))
        have D3 : DX (clC n b p ct) (clT n b p ct t) s3 := by
          refine ⟨fun k hk => ?_, fun k i j hk hi hj => ?_⟩
          · rw [es3, zs_row_ne (by decide), e2 20 (by decide)]; exact y2.1 k hk
          · rw [es3, zs_row_ne (by decide), e2 19 (by decide)]; exact y2.2 k i j hk hi hj
        obtain ⟨s4, w1, w2, w3, w4, w5, w6⟩ := clauseX T hN (DV_1 V z3) (TX_to H (G3 1 (by decide)) (F3 15 (by decide))) D3 (show hEn n b p + 1 ≤ n by omega) (by rw [es3, zs_at]; rfl) (by rw [es3, zs_ne (by decide), f1']; exact cf)
        rw [w1, zb_some]
        exact ih (hEn n b p + 1) (l + 1) F _ _ s4 (by omega) (by omega) (by omega) (by omega) (DV_1 V z3) ⟨FR_tr F3 w2, FS_tr G3 w3, w4, w5, w6⟩
      · rw [if_neg c59]
        simp only [z2_some]
        rw [if_pos zw_0]
        have eR : hR n b (m + 1) p ct t = (if sg n b (hEn n b p) = -1 then -1 else (hEn n b p : Int), clC n b p ct, clT n b p ct t) := by
          show (if clF n b p ct = -1 then _ else _) = _
          rw [if_pos cf, if_neg c59]
        rw [eR]
        refine fin _ ?_ (fun _ => ⟨rfl, rfl⟩)
        rw [if_pos cf, ee]
    · rw [if_neg cf, if_neg (show ¬ zw (-1) = zw 59 by decide)]
      simp only [z2_some]
      rw [if_pos zw_0]
      have eR : hR n b (m + 1) p ct t = (clF n b p ct, ct, t) := by
        show (if clF n b p ct = -1 then _ else _) = _
        rw [if_neg cf]
      rw [eR]
      refine fin _ ?_ (fun h => absurd h cf)
      rw [if_neg cf]
