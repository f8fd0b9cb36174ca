/-! the model reads a hill, but for wholeness -/
theorem hillM {n : Nat} {b : Nat → Nat} (T : TV n b) {N : Nat} (hN : 300 ≤ N) {g : zH} (H : TMo n b g) : ∃ g', fX11_readHill N g = (if (hAll n b).1 = -1 then hWM N g' else some ((hAll n b).1, g')) ∧ FR [14, 59, 60, 61, 62] g g' ∧ FS 14 [3, 4, 21, 22, 23] g g' ∧ ((hAll n b).1 = -1 → g' 14 4 = -1 ∧ g' 14 3 = (n : Int) ∧ DV (hAll n b).2.1 ∧ DM (hAll n b).2.1 (hAll n b).2.2 g') := by
  have n240 := T.1
  unfold fX11_readHill
  simp only [zlet_v]
  obtain ⟨g1, eg1⟩ : ∃ g1, g1 = zs (zs (zs (zs (zs g 14 3 0) 14 4 (-1)) 14 21 0) 14 22 0) 14 23 0 := ⟨_, rfl⟩
  rw [← eg1]
  have F1 : FR [14, 59, 60, 61, 62] g g1 := by
    rw [eg1]
    exact fun b hb => by rw [zs_row_ne (fun e => hb (by rw [e]; decide)), zs_row_ne (fun e => hb (by rw [e]; decide)), zs_row_ne (fun e => hb (by rw [e]; decide)), zs_row_ne (fun e => hb (by rw [e]; decide)), zs_row_ne (fun e => hb (by rw [e]; decide))]
  have G1 : FS 14 [3, 4, 21, 22, 23] g g1 := by
    rw [eg1]
    exact fun q hq => by rw [zs_ne (fun e => hq (by rw [e]; decide)), zs_ne (fun e => hq (by rw [e]; decide)), zs_ne (fun e => hq (by rw [e]; decide)), zs_ne (fun e => hq (by rw [e]; decide)), zs_ne (fun e => hq (by rw [e]; decide))]
  have p1 : g1 14 3 = 0 := by rw [eg1, zs_ne (by decide), zs_ne (by decide), zs_ne (by decide), zs_ne (by decide), zs_at]
  have f1 : g1 14 4 = -1 := by rw [eg1, zs_ne (by decide), zs_ne (by decide), zs_ne (by decide), zs_at]
  have k1 : g1 14 21 = 0 := by rw [eg1, zs_ne (by decide), zs_ne (by decide), zs_at]
  have k2 : g1 14 22 = 0 := by rw [eg1, zs_ne (by decide), zs_at]
  have k3 : g1 14 23 = 0 := by rw [eg1, zs_at]
  obtain ⟨g2, eg2⟩ : ∃ g2, g2 = zs (zs g1 59 0 (fX11_usual 115 0)) 59 1 (fX11_usual 115 1) := ⟨_, rfl⟩
  rw [← eg2]
  have F2 : FR [14, 59, 60, 61, 62] g g2 := by
    rw [eg2]
    exact FR_tr F1 (fun b hb => by rw [zs_row_ne (fun e => hb (by rw [e]; decide)), zs_row_ne (fun e => hb (by rw [e]; decide))])
  have a14 : g2 14 = g1 14 := by rw [eg2, zs_row_ne (by decide), zs_row_ne (by decide)]
  have D2 : DM (fun _ => 0) (iUs 0) g2 := by
    refine ⟨by rw [a14]; exact ⟨k1, k2, k3⟩, fun k i j hk hi hj => ?_⟩
    rcases hi with hi | ⟨rfl, rfl⟩
    · exact absurd (show i < 0 from hi) (by omega)
    · have hj : j < 2 := hj
      rcases (show j = 0 ∨ j = 1 by omega) with rfl | rfl
      · show g2 59 0 = fX11_usual 115 0
        rw [eg2, zs_ne (by decide), zs_at]
      · show g2 59 1 = fX11_usual 115 1
        rw [eg2, zs_at]
  exact loopHM T hN H 121 0 N (fun _ => 0) (iUs 0) g2 (by omega) (by omega) (Nat.zero_le n) (fun k _ => Nat.zero_le _) F2 (fun q hq => by rw [a14]; exact G1 q hq) (by rw [a14]; exact p1) (by rw [a14]; exact f1) D2
