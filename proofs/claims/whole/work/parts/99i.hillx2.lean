/-! the class reads a hill, but for wholeness -/
theorem fill20 {N : Nat} (hN : 300 ≤ N) (h : zH) : ∃ h', fJ7_fill_53178 N 20 0 h = some h' ∧ FR [20] h h' ∧ ∀ k, k < 4 → h' 20 k = 0 := by
  refine zloopq (F := fun m i (s : zH) => fJ7_fill_53178_c5 N 20 m 0 i 4 s) (n := 4) (s := h) (fun i s => FR [20] h s ∧ ∀ k, k < i → s 20 k = 0) (fun r => ∃ h', r = some h' ∧ FR [20] h h' ∧ ∀ k, k < 4 → h' 20 k = 0) (fun m i s hi hI => ?_) (fun m s hI => ?_) (by omega) ⟨FR_rf, fun k hk => absurd hk (by omega)⟩
  · obtain ⟨i1, i2⟩ := hI
    left
    refine ⟨zs s 20 i 0, ?_, FR_tr i1 (fun b hb => zs_row_ne (fun e => hb (by rw [e]; decide))), fun k hk => ?_⟩
    · show fJ7_fill_53178_c5b N 20 (fJ7_fill_53178_c5 N 20 m) 0 (i : Int) 4 s = _
      unfold fJ7_fill_53178_c5b
      have l : zln 20 = 4 := rfl
      rw [show zw 4 = 4 by decide, zw_id (show -2147483648 ≤ (i : Int) ∧ (i : Int) < 2147483648 by omega), if_neg (by omega), l, if_pos (by omega), Int.toNat_natCast]
      rfl
    · by_cases e : k = i
      · rw [e, zs_at]
      · rw [zs_ne e]; exact i2 k (by omega)
  · obtain ⟨i1, i2⟩ := hI
    refine ⟨s, ?_, i1, i2⟩
    show fJ7_fill_53178_c5b N 20 (fJ7_fill_53178_c5 N 20 m) 0 ((4 : Nat) : Int) 4 s = _
    unfold fJ7_fill_53178_c5b
    rw [if_pos (show zw 4 ≤ zw ((4 : Nat) : Int) by decide)]
def hAll (n : Nat) (b : Nat → Nat) : Int × (Nat → Nat) × (Nat → Int) := hR n b 121 0 (fun _ => 0) (iUs 0)
theorem hillX {n : Nat} {b : Nat → Nat} (T : TV n b) {N : Nat} (hN : 300 ≤ N) {h : zH} (H : TX n b h) : ∃ h', fX1_read N 3 h = (if (hAll n b).1 = -1 then hWh N h' else some ((hAll n b).1, h')) ∧ FR [1, 19, 20] h h' ∧ FS 1 [2, 3] h h' ∧ ((hAll n b).1 = -1 → h' 1 3 = -1 ∧ DV (hAll n b).2.1 ∧ DX (hAll n b).2.1 (hAll n b).2.2 h') := by
  have n240 := T.1
  unfold fX1_read fX9_rewind
  simp only [zlet_v]
  obtain ⟨h1, eh1⟩ : ∃ h1, h1 = zs (zs h 1 2 0) 1 3 (-1) := ⟨_, rfl⟩
  rw [← eh1]
  have e20 : zfr 3 1 = 20 := rfl
  obtain ⟨h2, a1, a2, a3⟩ := fill20 hN h1
  rw [e20, a1, zb_some]
  obtain ⟨h3, b1, b2, b3, b4⟩ := usX (N := N) (k := 0) (idx := 0) (by omega) (by decide) (by decide) (h := h2)
  have b1' : fX1_useUntold N 3 0 0 h2 = some h3 := b1
  rw [b1', zb_some]
  have F1 : FR [1, 19, 20] h h1 := by
    rw [eh1]
    exact fun b hb => by rw [zs_row_ne (fun e => hb (by rw [e]; decide)), zs_row_ne (fun e => hb (by rw [e]; decide))]
  have G1 : FS 1 [2, 3] h h1 := by
    rw [eh1]
    exact fun q hq => by rw [zs_ne (fun e => hq (by rw [e]; decide)), zs_ne (fun e => hq (by rw [e]; decide))]
  have F3 : FR [1, 19, 20] h h3 := FR_tr F1 (FR_tr (FR_up a2 (by decide)) (FR_up b2 (by decide)))
  have G3 : FS 1 [2, 3] h h3 := FS_tr G1 (fun q _ => by rw [b2 1 (by decide), a2 1 (by decide)])
  have D3 : DX (fun _ => 0) (iUs 0) h3 := by
    refine ⟨fun k hk => by rw [b2 20 (by decide), a3 k hk]; rfl, fun k i j hk hi hj => ?_⟩
    rcases hi with hi | ⟨rfl, rfl⟩
    · exact absurd (show i < 0 from hi) (by omega)
    · have := b4 j hj
      rw [show 32 * 0 + 4 * 0 + j = j by omega] at this ⊢
      exact this
  have V3 : DV (fun _ => 0) := fun k _ => Nat.zero_le _
  obtain ⟨h4, w1, w2, w3, w4, w5, w6⟩ := clauseX T hN V3 (TX_to H (G3 1 (by decide)) (F3 15 (by decide))) D3 (Nat.zero_le n) (by rw [b2 1 (by decide), a2 1 (by decide), eh1, zs_ne (by decide), zs_at]; rfl) (by rw [b2 1 (by decide), a2 1 (by decide), eh1, zs_at])
  rw [w1, zb_some]
  exact loopHX T hN H 121 0 1 N _ _ h4 (by omega) (by omega) (by omega) (Nat.zero_le n) V3 ⟨FR_tr F3 w2, FS_tr G3 w3, w4, w5, w6⟩
