theorem bI_step {N : Nat} {K : Int → Int → Int → Option Int} {l0 l1 l2 : Int} : fX9_bytesIn_c5b N K l0 l1 l2 = if zw l2 < 0 then some l1 else K l0 (l1 + (if bb l0 l2 = 0 then 0 else 1)) (l2 + (-8)) := by
  unfold fX9_bytesIn_c5b
  have e : zw (zand (zushr l0 l2) 255) = bb l0 l2 := bb_w l0 l2
  rw [e]
  by_cases hb : bb l0 l2 = 0
  · rw [if_pos hb, if_pos hb]
  · rw [if_neg hb, if_neg hb]
theorem bytesIn_eq {N : Nat} (hN : 5 ≤ N) (a : Int) : fX9_bytesIn N a = some (cnt [bb a 24, bb a 16, bb a 8, bb a 0]) := by
  obtain ⟨M, rfl⟩ : ∃ M, N = M + 5 := ⟨N - 5, by omega⟩
  show fX9_bytesIn_c5b (M + 5) (fX9_bytesIn_c5b (M + 5) (fX9_bytesIn_c5b (M + 5) (fX9_bytesIn_c5b (M + 5) (fX9_bytesIn_c5b (M + 5) (fX9_bytesIn_c5 (M + 5) M))))) a 0 24 = _
  rw [bI_step, if_neg (by decide), bI_step, if_neg (by decide), bI_step, if_neg (by decide), bI_step, if_neg (by decide), bI_step, if_pos (by decide)]
  simp only [cnt, show (24 + (-8) : Int) = 16 from rfl, show (16 + (-8) : Int) = 8 from rfl, show (8 + (-8) : Int) = 0 from rfl, Int.add_assoc, Int.zero_add, Int.add_zero]
theorem pu_len {o r s : Nat} (d : o ≠ r) {b : Int} {h : zH} (hL : 0 ≤ h r s ∧ h r s ≤ 240) : 0 ≤ pu o r s b h r s ∧ pu o r s b h r s ≤ 240 := by
  unfold pu
  split
  · exact hL
  · split
    · exact hL
    · rw [zs_at]; omega
theorem ap_step {N : Nat} {K : Int → Int → zH → Option zH} {l1 l2 : Int} {h : zH} (hL : 0 ≤ h 1 1 ∧ h 1 1 ≤ 240) : fX9_append_c3b N K l1 l2 h = if zw l2 < 0 then some h else K l1 (l2 + (-8)) (pu 15 1 1 (bb l1 l2) h) := by
  unfold fX9_append_c3b zlet
  dsimp only
  have e : zw (zand (zushr l1 l2) 255) = bb l1 l2 := bb_w l1 l2
  rw [e]
  unfold pu
  by_cases hb : bb l1 l2 = 0
  · rw [if_pos hb, if_pos hb]
  · rw [if_neg hb, if_neg hb, show zw 240 = 240 from by decide, show zw (h 1 1) = h 1 1 from zw_id (by omega)]
    by_cases hc : 240 ≤ h 1 1
    · rw [if_pos hc, if_pos hc]
    · rw [if_neg hc, if_neg hc]
      have e2 : fX10_put 15 (h 1 1) (zand (zushr l1 l2) 255) h = zs h 15 (h 1 1).toNat (bb l1 l2) := put_in hL.1 (by show h 1 1 < 240; omega)
      rw [e2]
      have e3 : zs h 15 (h 1 1).toNat (bb l1 l2) 1 1 = h 1 1 := by rw [zs_row_ne (by decide)]
      rw [e3]
theorem append_eq {N : Nat} (hN : 5 ≤ N) (a : Int) {h : zH} (hL : 0 ≤ h 1 1 ∧ h 1 1 ≤ 240) : fX9_append N a h = some (pus 15 1 1 [bb a 24, bb a 16, bb a 8, bb a 0] h) := by
  obtain ⟨M, rfl⟩ : ∃ M, N = M + 5 := ⟨N - 5, by omega⟩
  show fX9_append_c3b (M + 5) (fX9_append_c3b (M + 5) (fX9_append_c3b (M + 5) (fX9_append_c3b (M + 5) (fX9_append_c3b (M + 5) (fX9_append_c3 (M + 5) M))))) a 24 h = _
  have d : (15 : Nat) ≠ 1 := by decide
  rw [ap_step hL, if_neg (by decide), ap_step (pu_len d hL), if_neg (by decide), ap_step (pu_len d (pu_len d hL)), if_neg (by decide), ap_step (pu_len d (pu_len d (pu_len d hL))), if_neg (by decide), ap_step (pu_len d (pu_len d (pu_len d (pu_len d hL)))), if_pos (by decide)]
  rfl
theorem pus_len {o r s : Nat} (d : o ≠ r) {bs : List Int} {h : zH} (hL : 0 ≤ h r s ∧ h r s ≤ 240) : 0 ≤ pus o r s bs h r s ∧ pus o r s bs h r s ≤ 240 := by
  induction bs generalizing h with
  | nil => exact hL
  | cons b bs ih => exact ih (h := pu o r s b h) (pu_len d hL)
theorem feedX_eq {N : Nat} (hN : 5 ≤ N) (a1 a2 a3 a4 a5 : Int) {h : zH} (hL : 0 ≤ h 1 1 ∧ h 1 1 ≤ 240) : fX10_feed N a1 a2 a3 a4 a5 h = if h 1 1 + cnt (words5 a1 a2 a3 a4 a5) ≤ 240 then some (pus 15 1 1 (words5 a1 a2 a3 a4 a5) h 1 1, pus 15 1 1 (words5 a1 a2 a3 a4 a5) h) else some (-1, h) := by
  have d : (15 : Nat) ≠ 1 := by decide
  have ec : ((((cnt [bb a1 24, bb a1 16, bb a1 8, bb a1 0] + cnt [bb a2 24, bb a2 16, bb a2 8, bb a2 0]) + cnt [bb a3 24, bb a3 16, bb a3 8, bb a3 0]) + cnt [bb a4 24, bb a4 16, bb a4 8, bb a4 0]) + cnt [bb a5 24, bb a5 16, bb a5 8, bb a5 0]) = cnt (words5 a1 a2 a3 a4 a5) := by
    rw [← cnt_app, ← cnt_app, ← cnt_app, ← cnt_app]; rfl
  have hc := cnt_nn (words5 a1 a2 a3 a4 a5)
  have hl : (words5 a1 a2 a3 a4 a5).length = 20 := rfl
  rw [hl] at hc
  unfold fX10_feed
  rw [bytesIn_eq hN, bytesIn_eq hN, bytesIn_eq hN, bytesIn_eq hN, bytesIn_eq hN]
  show (if zw (h 1 1 + _) ≤ zw 240 then _ else _) = _
  rw [ec, show zw 240 = 240 from by decide, zw_id (show _ from by omega)]
  by_cases hs : h 1 1 + cnt (words5 a1 a2 a3 a4 a5) ≤ 240
  · rw [if_pos hs, if_pos hs, append_eq hN a1 hL]
    show zb (fX9_append N a2 _) _ = _
    rw [append_eq hN a2 (pus_len d hL)]
    show zb (fX9_append N a3 _) _ = _
    rw [append_eq hN a3 (pus_len d (pus_len d hL))]
    show zb (fX9_append N a4 _) _ = _
    rw [append_eq hN a4 (pus_len d (pus_len d (pus_len d hL)))]
    show zb (fX9_append N a5 _) _ = _
    rw [append_eq hN a5 (pus_len d (pus_len d (pus_len d (pus_len d hL))))]
    rfl
  · rw [if_neg hs, if_neg hs]
theorem byteOf_0 (a1 a2 a3 a4 a5 : Int) : fX11_byteOf a1 a2 a3 a4 a5 0 = bb a1 24 := by
  have e : fX11_byteOf a1 a2 a3 a4 a5 0 = fX11_byteOf_c45 0 a1 := by unfold fX11_byteOf; rw [if_neg (by decide)]
  rw [e]
  unfold fX11_byteOf_c45
  rw [show (24 - (8 * (zrem 0 4)) : Int) = 24 from by decide]
  exact zsh_eq (by decide)
theorem byteOf_1 (a1 a2 a3 a4 a5 : Int) : fX11_byteOf a1 a2 a3 a4 a5 1 = bb a1 16 := by
  have e : fX11_byteOf a1 a2 a3 a4 a5 1 = fX11_byteOf_c45 1 a1 := by unfold fX11_byteOf; rw [if_neg (by decide)]
  rw [e]
  unfold fX11_byteOf_c45
  rw [show (24 - (8 * (zrem 1 4)) : Int) = 16 from by decide]
  exact zsh_eq (by decide)
theorem byteOf_2 (a1 a2 a3 a4 a5 : Int) : fX11_byteOf a1 a2 a3 a4 a5 2 = bb a1 8 := by
  have e : fX11_byteOf a1 a2 a3 a4 a5 2 = fX11_byteOf_c45 2 a1 := by unfold fX11_byteOf; rw [if_neg (by decide)]
  rw [e]
  unfold fX11_byteOf_c45
  rw [show (24 - (8 * (zrem 2 4)) : Int) = 8 from by decide]
  exact zsh_eq (by decide)
theorem byteOf_3 (a1 a2 a3 a4 a5 : Int) : fX11_byteOf a1 a2 a3 a4 a5 3 = bb a1 0 := by
  have e : fX11_byteOf a1 a2 a3 a4 a5 3 = fX11_byteOf_c45 3 a1 := by unfold fX11_byteOf; rw [if_neg (by decide)]
  rw [e]
  unfold fX11_byteOf_c45
  rw [show (24 - (8 * (zrem 3 4)) : Int) = 0 from by decide]
  exact zsh_eq (by decide)
theorem byteOf_4 (a1 a2 a3 a4 a5 : Int) : fX11_byteOf a1 a2 a3 a4 a5 4 = bb a2 24 := by
  have e : fX11_byteOf a1 a2 a3 a4 a5 4 = fX11_byteOf_c45 4 a2 := by unfold fX11_byteOf; rw [if_pos (by decide)]; rw [if_neg (by decide)]
  rw [e]
  unfold fX11_byteOf_c45
  rw [show (24 - (8 * (zrem 4 4)) : Int) = 24 from by decide]
  exact zsh_eq (by decide)
theorem byteOf_5 (a1 a2 a3 a4 a5 : Int) : fX11_byteOf a1 a2 a3 a4 a5 5 = bb a2 16 := by
  have e : fX11_byteOf a1 a2 a3 a4 a5 5 = fX11_byteOf_c45 5 a2 := by unfold fX11_byteOf; rw [if_pos (by decide)]; rw [if_neg (by decide)]
  rw [e]
  unfold fX11_byteOf_c45
  rw [show (24 - (8 * (zrem 5 4)) : Int) = 16 from by decide]
  exact zsh_eq (by decide)
theorem byteOf_6 (a1 a2 a3 a4 a5 : Int) : fX11_byteOf a1 a2 a3 a4 a5 6 = bb a2 8 := by
  have e : fX11_byteOf a1 a2 a3 a4 a5 6 = fX11_byteOf_c45 6 a2 := by unfold fX11_byteOf; rw [if_pos (by decide)]; rw [if_neg (by decide)]
  rw [e]
  unfold fX11_byteOf_c45
  rw [show (24 - (8 * (zrem 6 4)) : Int) = 8 from by decide]
  exact zsh_eq (by decide)
theorem byteOf_7 (a1 a2 a3 a4 a5 : Int) : fX11_byteOf a1 a2 a3 a4 a5 7 = bb a2 0 := by
  have e : fX11_byteOf a1 a2 a3 a4 a5 7 = fX11_byteOf_c45 7 a2 := by unfold fX11_byteOf; rw [if_pos (by decide)]; rw [if_neg (by decide)]
  rw [e]
  unfold fX11_byteOf_c45
  rw [show (24 - (8 * (zrem 7 4)) : Int) = 0 from by decide]
  exact zsh_eq (by decide)
theorem byteOf_8 (a1 a2 a3 a4 a5 : Int) : fX11_byteOf a1 a2 a3 a4 a5 8 = bb a3 24 := by
  have e : fX11_byteOf a1 a2 a3 a4 a5 8 = fX11_byteOf_c45 8 a3 := by unfold fX11_byteOf; rw [if_pos (by decide)]; rw [if_pos (by decide)]; rw [if_neg (by decide)]
  rw [e]
  unfold fX11_byteOf_c45
  rw [show (24 - (8 * (zrem 8 4)) : Int) = 24 from by decide]
  exact zsh_eq (by decide)
theorem byteOf_9 (a1 a2 a3 a4 a5 : Int) : fX11_byteOf a1 a2 a3 a4 a5 9 = bb a3 16 := by
  have e : fX11_byteOf a1 a2 a3 a4 a5 9 = fX11_byteOf_c45 9 a3 := by unfold fX11_byteOf; rw [if_pos (by decide)]; rw [if_pos (by decide)]; rw [if_neg (by decide)]
  rw [e]
  unfold fX11_byteOf_c45
  rw [show (24 - (8 * (zrem 9 4)) : Int) = 16 from by decide]
  exact zsh_eq (by decide)
theorem byteOf_10 (a1 a2 a3 a4 a5 : Int) : fX11_byteOf a1 a2 a3 a4 a5 10 = bb a3 8 := by
  have e : fX11_byteOf a1 a2 a3 a4 a5 10 = fX11_byteOf_c45 10 a3 := by unfold fX11_byteOf; rw [if_pos (by decide)]; rw [if_pos (by decide)]; rw [if_neg (by decide)]
  rw [e]
  unfold fX11_byteOf_c45
  rw [show (24 - (8 * (zrem 10 4)) : Int) = 8 from by decide]
  exact zsh_eq (by decide)
theorem byteOf_11 (a1 a2 a3 a4 a5 : Int) : fX11_byteOf a1 a2 a3 a4 a5 11 = bb a3 0 := by
  have e : fX11_byteOf a1 a2 a3 a4 a5 11 = fX11_byteOf_c45 11 a3 := by unfold fX11_byteOf; rw [if_pos (by decide)]; rw [if_pos (by decide)]; rw [if_neg (by decide)]
  rw [e]
  unfold fX11_byteOf_c45
  rw [show (24 - (8 * (zrem 11 4)) : Int) = 0 from by decide]
  exact zsh_eq (by decide)
theorem byteOf_12 (a1 a2 a3 a4 a5 : Int) : fX11_byteOf a1 a2 a3 a4 a5 12 = bb a4 24 := by
  have e : fX11_byteOf a1 a2 a3 a4 a5 12 = fX11_byteOf_c45 12 a4 := by unfold fX11_byteOf; rw [if_pos (by decide)]; rw [if_pos (by decide)]; rw [if_pos (by decide)]; rw [if_neg (by decide)]
  rw [e]
  unfold fX11_byteOf_c45
  rw [show (24 - (8 * (zrem 12 4)) : Int) = 24 from by decide]
  exact zsh_eq (by decide)
theorem byteOf_13 (a1 a2 a3 a4 a5 : Int) : fX11_byteOf a1 a2 a3 a4 a5 13 = bb a4 16 := by
  have e : fX11_byteOf a1 a2 a3 a4 a5 13 = fX11_byteOf_c45 13 a4 := by unfold fX11_byteOf; rw [if_pos (by decide)]; rw [if_pos (by decide)]; rw [if_pos (by decide)]; rw [if_neg (by decide)]
  rw [e]
  unfold fX11_byteOf_c45
  rw [show (24 - (8 * (zrem 13 4)) : Int) = 16 from by decide]
  exact zsh_eq (by decide)
theorem byteOf_14 (a1 a2 a3 a4 a5 : Int) : fX11_byteOf a1 a2 a3 a4 a5 14 = bb a4 8 := by
  have e : fX11_byteOf a1 a2 a3 a4 a5 14 = fX11_byteOf_c45 14 a4 := by unfold fX11_byteOf; rw [if_pos (by decide)]; rw [if_pos (by decide)]; rw [if_pos (by decide)]; rw [if_neg (by decide)]
  rw [e]
  unfold fX11_byteOf_c45
  rw [show (24 - (8 * (zrem 14 4)) : Int) = 8 from by decide]
  exact zsh_eq (by decide)
theorem byteOf_15 (a1 a2 a3 a4 a5 : Int) : fX11_byteOf a1 a2 a3 a4 a5 15 = bb a4 0 := by
  have e : fX11_byteOf a1 a2 a3 a4 a5 15 = fX11_byteOf_c45 15 a4 := by unfold fX11_byteOf; rw [if_pos (by decide)]; rw [if_pos (by decide)]; rw [if_pos (by decide)]; rw [if_neg (by decide)]
  rw [e]
  unfold fX11_byteOf_c45
  rw [show (24 - (8 * (zrem 15 4)) : Int) = 0 from by decide]
  exact zsh_eq (by decide)
theorem byteOf_16 (a1 a2 a3 a4 a5 : Int) : fX11_byteOf a1 a2 a3 a4 a5 16 = bb a5 24 := by
  have e : fX11_byteOf a1 a2 a3 a4 a5 16 = fX11_byteOf_c45 16 a5 := by unfold fX11_byteOf; rw [if_pos (by decide)]; rw [if_pos (by decide)]; rw [if_pos (by decide)]; rw [if_pos (by decide)]
  rw [e]
  unfold fX11_byteOf_c45
  rw [show (24 - (8 * (zrem 16 4)) : Int) = 24 from by decide]
  exact zsh_eq (by decide)
theorem byteOf_17 (a1 a2 a3 a4 a5 : Int) : fX11_byteOf a1 a2 a3 a4 a5 17 = bb a5 16 := by
  have e : fX11_byteOf a1 a2 a3 a4 a5 17 = fX11_byteOf_c45 17 a5 := by unfold fX11_byteOf; rw [if_pos (by decide)]; rw [if_pos (by decide)]; rw [if_pos (by decide)]; rw [if_pos (by decide)]
  rw [e]
  unfold fX11_byteOf_c45
  rw [show (24 - (8 * (zrem 17 4)) : Int) = 16 from by decide]
  exact zsh_eq (by decide)
theorem byteOf_18 (a1 a2 a3 a4 a5 : Int) : fX11_byteOf a1 a2 a3 a4 a5 18 = bb a5 8 := by
  have e : fX11_byteOf a1 a2 a3 a4 a5 18 = fX11_byteOf_c45 18 a5 := by unfold fX11_byteOf; rw [if_pos (by decide)]; rw [if_pos (by decide)]; rw [if_pos (by decide)]; rw [if_pos (by decide)]
  rw [e]
  unfold fX11_byteOf_c45
  rw [show (24 - (8 * (zrem 18 4)) : Int) = 8 from by decide]
  exact zsh_eq (by decide)
theorem byteOf_19 (a1 a2 a3 a4 a5 : Int) : fX11_byteOf a1 a2 a3 a4 a5 19 = bb a5 0 := by
  have e : fX11_byteOf a1 a2 a3 a4 a5 19 = fX11_byteOf_c45 19 a5 := by unfold fX11_byteOf; rw [if_pos (by decide)]; rw [if_pos (by decide)]; rw [if_pos (by decide)]; rw [if_pos (by decide)]
  rw [e]
  unfold fX11_byteOf_c45
  rw [show (24 - (8 * (zrem 19 4)) : Int) = 0 from by decide]
  exact zsh_eq (by decide)
theorem byteOf_eq (a1 a2 a3 a4 a5 : Int) (j : Nat) (hj : j < 20) : fX11_byteOf a1 a2 a3 a4 a5 (j : Int) = (words5 a1 a2 a3 a4 a5).getD j 0 := by
  have hc : j = 0 ∨ j = 1 ∨ j = 2 ∨ j = 3 ∨ j = 4 ∨ j = 5 ∨ j = 6 ∨ j = 7 ∨ j = 8 ∨ j = 9 ∨ j = 10 ∨ j = 11 ∨ j = 12 ∨ j = 13 ∨ j = 14 ∨ j = 15 ∨ j = 16 ∨ j = 17 ∨ j = 18 ∨ j = 19 := by omega
  rcases hc with rfl | rfl | rfl | rfl | rfl | rfl | rfl | rfl | rfl | rfl | rfl | rfl | rfl | rfl | rfl | rfl | rfl | rfl | rfl | rfl
  · exact byteOf_0 a1 a2 a3 a4 a5
  · exact byteOf_1 a1 a2 a3 a4 a5
  · exact byteOf_2 a1 a2 a3 a4 a5
  · exact byteOf_3 a1 a2 a3 a4 a5
  · exact byteOf_4 a1 a2 a3 a4 a5
  · exact byteOf_5 a1 a2 a3 a4 a5
  · exact byteOf_6 a1 a2 a3 a4 a5
  · exact byteOf_7 a1 a2 a3 a4 a5
  · exact byteOf_8 a1 a2 a3 a4 a5
  · exact byteOf_9 a1 a2 a3 a4 a5
  · exact byteOf_10 a1 a2 a3 a4 a5
  · exact byteOf_11 a1 a2 a3 a4 a5
  · exact byteOf_12 a1 a2 a3 a4 a5
  · exact byteOf_13 a1 a2 a3 a4 a5
  · exact byteOf_14 a1 a2 a3 a4 a5
  · exact byteOf_15 a1 a2 a3 a4 a5
  · exact byteOf_16 a1 a2 a3 a4 a5
  · exact byteOf_17 a1 a2 a3 a4 a5
  · exact byteOf_18 a1 a2 a3 a4 a5
  · exact byteOf_19 a1 a2 a3 a4 a5
theorem words5_byte (a1 a2 a3 a4 a5 : Int) : ∀ b ∈ words5 a1 a2 a3 a4 a5, 0 ≤ b ∧ b ≤ 255 := by
  intro b hb
  simp only [words5, List.mem_cons, List.not_mem_nil, or_false] at hb
  rcases hb with rfl | rfl | rfl | rfl | rfl | rfl | rfl | rfl | rfl | rfl | rfl | rfl | rfl | rfl | rfl | rfl | rfl | rfl | rfl | rfl <;> exact bb_range _ _
theorem words5_drop (a1 a2 a3 a4 a5 : Int) (j : Nat) (hj : j < 20) : (words5 a1 a2 a3 a4 a5).drop j = (words5 a1 a2 a3 a4 a5).getD j 0 :: (words5 a1 a2 a3 a4 a5).drop (j + 1) := by
  have hl : (words5 a1 a2 a3 a4 a5).length = 20 := rfl
  rw [List.drop_eq_getElem_cons (by rw [hl]; exact hj)]
  congr 1
  rw [List.getD_eq_getElem?_getD, List.getElem?_eq_getElem (by rw [hl]; exact hj)]
  rfl
theorem fd2 {N : Nat} (a1 a2 a3 a4 a5 : Int) : ∀ (k j M : Nat) (h : zH), j + k = 20 → 0 ≤ h 14 2 → h 14 2 + cnt ((words5 a1 a2 a3 a4 a5).drop j) ≤ 240 → fX11_feed_c62 N (M + k + 1) a1 a2 a3 a4 a5 (j : Int) h = some (pus 49 14 2 ((words5 a1 a2 a3 a4 a5).drop j) h 14 2, pus 49 14 2 ((words5 a1 a2 a3 a4 a5).drop j) h) := by
  intro k
  induction k with
  | zero =>
    intro j M h hj h0 hc
    have : j = 20 := by omega
    subst this
    show fX11_feed_c62b N (fX11_feed_c62 N M) a1 a2 a3 a4 a5 (20 : Int) h = _
    unfold fX11_feed_c62b
    rw [if_pos (by decide)]
    rfl
  | succ k ih =>
    intro j M h hj h0 hc
    show fX11_feed_c62b N (fX11_feed_c62 N (M + k + 1)) a1 a2 a3 a4 a5 (j : Int) h = _
    have hj2 : j < 20 := by omega
    unfold fX11_feed_c62b zlet
    dsimp only
    rw [if_neg (by rw [show zw 20 = 20 from by decide, zw_id (show _ from by omega)]; omega), byteOf_eq a1 a2 a3 a4 a5 j hj2]
    rw [words5_drop a1 a2 a3 a4 a5 j hj2] at hc ⊢
    have hb := words5_byte a1 a2 a3 a4 a5 ((words5 a1 a2 a3 a4 a5).getD j 0) (by
      rw [List.getD_eq_getElem?_getD, List.getElem?_eq_getElem (by show j < 20; exact hj2)]
      exact List.getElem_mem _)
    generalize (words5 a1 a2 a3 a4 a5).getD j 0 = b at hc hb ⊢
    have hn := cnt_nn ((words5 a1 a2 a3 a4 a5).drop (j + 1))
    rw [show zw b = b from zw_id (by omega)]
    have ej : ((j : Int) + 1) = ((j + 1 : Nat) : Int) := rfl
    rw [ej]
    simp only [cnt] at hc
    by_cases hb0 : b = 0
    · rw [if_pos hb0] at hc ⊢
      rw [ih (j + 1) M h (by omega) h0 (by omega)]
      show _ = some (pus 49 14 2 _ (pu 49 14 2 b h) 14 2, pus 49 14 2 _ (pu 49 14 2 b h))
      rw [show pu 49 14 2 b h = h from if_pos hb0]
    · rw [if_neg hb0] at hc ⊢
      have hlt : ¬ 240 ≤ h 14 2 := by omega
      rw [show zw (h 14 2) = h 14 2 from zw_id (by omega), if_pos (by omega)]
      have e3 : zs h 49 (h 14 2).toNat b 14 2 = h 14 2 := by rw [zs_row_ne (by decide)]
      rw [e3]
      have e4 : pu 49 14 2 b h = zs (zs h 49 (h 14 2).toNat b) 14 2 (h 14 2 + 1) := by
        unfold pu; rw [if_neg hb0, if_neg hlt]
      have e5 : (zs (zs h 49 (h 14 2).toNat b) 14 2 (h 14 2 + 1)) 14 2 = h 14 2 + 1 := zs_at
      rw [ih (j + 1) M _ (by omega) (by rw [e5]; omega) (by rw [e5]; omega), ← e4]
      rfl
theorem fd1 {N : Nat} (hN : 21 ≤ N) (a1 a2 a3 a4 a5 : Int) (h : zH) (h0 : 0 ≤ h 14 2 ∧ h 14 2 ≤ 240) : ∀ (k j M : Nat) (x : Int), j + k = 20 → 0 ≤ x → x + cnt ((words5 a1 a2 a3 a4 a5).drop j) ≤ 20 → fX11_feed_c6 N (M + k + 1) a1 a2 a3 a4 a5 x (j : Int) h = if h 14 2 + (x + cnt ((words5 a1 a2 a3 a4 a5).drop j)) ≤ 240 then fX11_feed_c62 N N a1 a2 a3 a4 a5 0 h else some (-1, h) := by
  intro k
  induction k with
  | zero =>
    intro j M x hj hx hc
    have : j = 20 := by omega
    subst this
    have ec : cnt ((words5 a1 a2 a3 a4 a5).drop 20) = 0 := rfl
    rw [ec] at hc ⊢
    show fX11_feed_c6b N (fX11_feed_c6 N M) a1 a2 a3 a4 a5 x (20 : Int) h = _
    unfold fX11_feed_c6b
    rw [if_pos (by decide), show zw 240 = 240 from by decide, zw_id (show _ from by omega), Int.add_zero]
  | succ k ih =>
    intro j M x hj hx hc
    show fX11_feed_c6b N (fX11_feed_c6 N (M + k + 1)) a1 a2 a3 a4 a5 x (j : Int) h = _
    have hj2 : j < 20 := by omega
    unfold fX11_feed_c6b
    rw [if_neg (by rw [show zw 20 = 20 from by decide, zw_id (show _ from by omega)]; omega), byteOf_eq a1 a2 a3 a4 a5 j hj2]
    rw [words5_drop a1 a2 a3 a4 a5 j hj2] at hc ⊢
    have hb := words5_byte a1 a2 a3 a4 a5 ((words5 a1 a2 a3 a4 a5).getD j 0) (by
      rw [List.getD_eq_getElem?_getD, List.getElem?_eq_getElem (by show j < 20; exact hj2)]
      exact List.getElem_mem _)
    generalize (words5 a1 a2 a3 a4 a5).getD j 0 = b at hc hb ⊢
    have hn := cnt_nn ((words5 a1 a2 a3 a4 a5).drop (j + 1))
    rw [show zw b = b from zw_id (by omega)]
    have ej : ((j : Int) + 1) = ((j + 1 : Nat) : Int) := rfl
    rw [ej]
    by_cases hb0 : b = 0
    · have ec : cnt (b :: (words5 a1 a2 a3 a4 a5).drop (j + 1)) = cnt ((words5 a1 a2 a3 a4 a5).drop (j + 1)) := by simp only [cnt]; rw [if_pos hb0, Int.zero_add]
      rw [ec] at hc ⊢
      rw [if_pos hb0, ih (j + 1) M (x + 0) (by omega) (by omega) (by omega), Int.add_zero]
    · have ec : cnt (b :: (words5 a1 a2 a3 a4 a5).drop (j + 1)) = 1 + cnt ((words5 a1 a2 a3 a4 a5).drop (j + 1)) := by simp only [cnt]; rw [if_neg hb0]
      rw [ec] at hc ⊢
      rw [if_neg hb0, ih (j + 1) M (x + 1) (by omega) (by omega) (by omega), Int.add_assoc]
theorem feedM_eq {N : Nat} (hN : 21 ≤ N) (a1 a2 a3 a4 a5 : Int) {h : zH} (hL : 0 ≤ h 14 2 ∧ h 14 2 ≤ 240) : fX11_feed N a1 a2 a3 a4 a5 h = if h 14 2 + cnt (words5 a1 a2 a3 a4 a5) ≤ 240 then some (pus 49 14 2 (words5 a1 a2 a3 a4 a5) h 14 2, pus 49 14 2 (words5 a1 a2 a3 a4 a5) h) else some (-1, h) := by
  have hc := cnt_nn (words5 a1 a2 a3 a4 a5)
  have hl : (words5 a1 a2 a3 a4 a5).length = 20 := rfl
  rw [hl] at hc
  have ed : (words5 a1 a2 a3 a4 a5).drop 0 = words5 a1 a2 a3 a4 a5 := rfl
  have h1 := fd1 hN a1 a2 a3 a4 a5 h hL 20 0 (N - 21) 0 rfl (by omega) (by rw [ed]; omega)
  rw [show N - 21 + 20 + 1 = N by omega, ed, Int.zero_add] at h1
  refine Eq.trans h1 ?_
  by_cases hs : h 14 2 + cnt (words5 a1 a2 a3 a4 a5) ≤ 240
  · rw [if_pos hs, if_pos hs]
    have h2 := fd2 (N := N) a1 a2 a3 a4 a5 20 0 (N - 21) h rfl hL.1 (by rw [ed]; exact hs)
    rw [show N - 21 + 20 + 1 = N by omega, ed] at h2
    exact h2
  · rw [if_neg hs, if_neg hs]
