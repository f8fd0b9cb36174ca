/-! all rows that rest, the class's -/
theorem powK {np nd nr : Nat} {t : Nat → Nat} (V : HV np nd nr t) (h5 : np ≤ 5) (k : Nat) (hk : k ≤ np) : fK (fmk t np) ^ k ≤ 3125 := by
  have a := fK_le V np (Nat.le_refl np)
  have b : fK (fmk t np) ^ k ≤ 5 ^ k := Nat.pow_le_pow_left (by omega) k
  have c : 5 ^ k ≤ 5 ^ 5 := Nat.pow_le_pow_right (by decide) (by omega)
  have d : (5 : Nat) ^ 5 = 3125 := by decide
  omega
theorem allX {np nd nr : Nat} {t : Nat → Nat} {h : zH} (V : HV np nd nr t) (X : HX np nd nr t h) {N : Nat} (hN : 300 ≤ N) (h2 : h 12 2 = (fK (fmk t np) : Int)) : fX6_findRests_c42 N 2 N 1 0 h = fX6_findRests_c66 N 2 N ((fK (fmk t np) ^ np : Nat) : Int) 0 h := by
  have vv := V.1
  refine zloopq (F := fun m p (s : Nat) => fX6_findRests_c42 N 2 m (s : Int) p h) (n := np) (s := 1) (fun p s => s = fK (fmk t np) ^ p) (fun r => r = fX6_findRests_c66 N 2 N ((fK (fmk t np) ^ np : Nat) : Int) 0 h) (fun m p s hp hI => ?_) (fun m s hI => ?_) (show np < N by omega) rfl
  · left
    refine ⟨fK (fmk t np) ^ (p + 1), ?_, rfl⟩
    show fX6_findRests_c42b N 2 (fX6_findRests_c42 N 2 m) (s : Int) (p : Int) h = _
    unfold fX6_findRests_c42b
    have hI : s = fK (fmk t np) ^ p := hI
    rw [xm1 X, zw_n9 (show np < 1000000000 by omega), zw_n9 (show p < 1000000000 by omega), if_neg (by omega), zlet_v, h2, hI, show ((fK (fmk t np) ^ p : Nat) : Int) * (fK (fmk t np) : Int) = ((fK (fmk t np) ^ (p + 1) : Nat) : Int) by rw [Nat.pow_succ, Int.natCast_mul]]
    rfl
  · have hI : s = fK (fmk t np) ^ np := hI
    show fX6_findRests_c42b N 2 (fX6_findRests_c42 N 2 m) (s : Int) (np : Int) h = _
    unfold fX6_findRests_c42b
    rw [xm1 X, if_pos (Int.le_refl _), hI]
theorem goX76 {np nd nr : Nat} {t : Nat → Nat} {h : zH} (V : HV np nd nr t) (X : HX np nd nr t h) {N : Nat} (hN : 6600 ≤ N) (h0 : 0 < np) (h5 : np ≤ 5) (h2 : h 12 2 = (fK (fmk t np) : Int)) (h45 : ∀ j, j < fK (fmk t np) → h 45 j = (fG (fmk t np) j : Int)) (h4 : h 12 4 = 0) : ∃ h', fX6_findRests_c66 N 2 N ((fK (fmk t np) ^ np : Nat) : Int) 0 h = some (((rstL np nr t).length : Int), h') ∧ FR [12, 44, 76] h h' ∧ FS 12 [4, 5] h h' ∧ h' 12 5 = 1 ∧ h' 12 4 = ((rstL np nr t).length : Int) ∧ ∀ i, i < (rstL np nr t).length → h' 76 i = ((rstL np nr t).getD i 0 : Nat) := by
  have vv := V.1
  have pK := powK V h5 np (Nat.le_refl np)
  have kp := fK_pos V h0
  rw [← lstR_all V h0]
  generalize hT : fK (fmk t np) ^ np = T at pK ⊢
  refine zloopq (F := fun m n (s : zH) => fX6_findRests_c66 N 2 m (T : Int) n s) (n := T) (s := h) (fun n s => FR [12, 44, 76] h s ∧ FS 12 [4, 5] h s ∧ s 12 4 = ((lstR np nr t n).length : Int) ∧ ∀ i, i < (lstR np nr t n).length → s 76 i = ((lstR np nr t n).getD i 0 : Nat)) (fun r => ∃ h', r = some (((lstR np nr t T).length : Int), h') ∧ FR [12, 44, 76] h h' ∧ FS 12 [4, 5] h h' ∧ h' 12 5 = 1 ∧ h' 12 4 = ((lstR np nr t T).length : Int) ∧ ∀ i, i < (lstR np nr t T).length → h' 76 i = ((lstR np nr t T).getD i 0 : Nat)) (fun m n s hn hI => ?_) (fun m s hI => ?_) (show T < N by omega) ⟨FR_rf, FS_rf, h4, fun i hi => absurd hi (by show ¬ i < 0; omega)⟩
  · obtain ⟨hF, hS, e4, e76⟩ := hI
    left
    have s2 : s 12 2 = (fK (fmk t np) : Int) := by rw [hS 2 (by decide)]; exact h2
    have s45 : ∀ j, j < fK (fmk t np) → s 45 j = (fG (fmk t np) j : Int) := fun j hj => by rw [hF 45 (by decide)]; exact h45 j hj
    have Xs := HX_44 X hF (by decide)
    obtain ⟨h3, c1, c2, c3, c4⟩ := nthX (N := N) kp np n N 0 1 s (by omega) (by omega) (by omega) s2 s45
    have X3 := HX_44 Xs c2 (by decide)
    obtain ⟨h5', d1, d2⟩ := isRX V X3 (N := N) (by omega) (by rw [c2 12 (by decide)]; exact s2) (fun j hj => by rw [c2 45 (by decide)]; exact s45 j hj) (ch := fun p => (chR np (nthR (fmk t np) np n) p : Int)) (fun o ho => ⟨by omega, by have := chR_10 np (nthR (fmk t np) np n) o; omega⟩) (fun q hq => c4 q hq)
    have F5 : FR [44] s h5' := FR_tr c2 d1
    have hl := lstR_len (np := np) (nr := nr) (t := t) n
    have e124 : h5' 12 4 = ((lstR np nr t n).length : Int) := by rw [F5 12 (by decide)]; exact e4
    have w5 : FR [12, 44, 76] h h5' := fun b hb => (F5 b (fun e => hb ((by decide : ∀ b, b ∈ [44] → b ∈ [12, 44, 76]) b e))).trans (hF b hb)
    have x5 : FS 12 [4, 5] h h5' := fun j hj => by rw [F5 12 (by decide)]; exact hS j hj
    have y5 : ∀ i, i < (lstR np nr t n).length → h5' 76 i = ((lstR np nr t n).getD i 0 : Nat) := fun i hi => by rw [F5 76 (by decide)]; exact e76 i hi
    have E : fX6_findRests_c66 N 2 (m + 1) (T : Int) (n : Int) s = if rstB np nr t (fun p => (chR np (nthR (fmk t np) np n) p : Int)) = true then fX6_findRests_c66 N 2 m (T : Int) ((n : Int) + 1) (zs (zs h5' 76 (lstR np nr t n).length (nthR (fmk t np) np n : Int)) 12 4 (((lstR np nr t n).length : Int) + 1)) else fX6_findRests_c66 N 2 m (T : Int) ((n : Int) + 1) h5' := by
      show fX6_findRests_c66b N 2 (fX6_findRests_c66 N 2 m) (T : Int) (n : Int) s = _
      unfold fX6_findRests_c66b fX6_chooseNth
      rw [zw_n9 (show T < 1000000000 by omega), zw_n9 (show n < 1000000000 by omega), if_neg (by omega), xm1 Xs, zlet_v, c1, z2_some, d2, z2_some]
      by_cases c : rstB np nr t (fun p => (chR np (nthR (fmk t np) np n) p : Int)) = true
      · rw [if_pos c, if_neg (show ¬ zw 1 = 0 by decide), e124, put_in (by omega) (by show _ < ((3125 : Nat) : Int); omega), Int.toNat_natCast, zlet_v, zlet_v, zs_row_ne (by decide), e124, if_pos c, Int.zero_add, Int.one_mul]
      · rw [if_neg c, if_pos zw_0, if_neg c]
    by_cases c : rstB np nr t (fun p => (chR np (nthR (fmk t np) np n) p : Int)) = true
    · refine ⟨zs (zs h5' 76 (lstR np nr t n).length (nthR (fmk t np) np n : Int)) 12 4 (((lstR np nr t n).length : Int) + 1), ?_, FR_zs (FR_zs w5 (by decide)) (by decide), fun j hj => ?_, ?_, fun i hi => ?_⟩
      · show fX6_findRests_c66 N 2 (m + 1) (T : Int) (n : Int) s = _
        rw [E, if_pos c]; rfl
      · rw [zs_ne (fun e => hj (by rw [e]; decide)), zs_row_ne (by decide)]
        exact x5 j hj
      · rw [zs_at, lstR_s, if_pos c, List.length_append]; rfl
      · rw [zs_row_ne (by decide), lstR_s, if_pos c, getD_snoc]
        rw [lstR_s, if_pos c, List.length_append] at hi
        have hi : i < (lstR np nr t n).length + 1 := hi
        by_cases e : i = (lstR np nr t n).length
        · rw [e, zs_at, if_neg (by omega), if_pos rfl]
        · rw [zs_ne e, if_pos (by omega)]
          exact y5 i (by omega)
    · refine ⟨h5', ?_, w5, x5, ?_, ?_⟩
      · show fX6_findRests_c66 N 2 (m + 1) (T : Int) (n : Int) s = _
        rw [E, if_neg c]; rfl
      · rw [lstR_s, if_neg c, List.append_nil]; exact e124
      · rw [lstR_s, if_neg c, List.append_nil]; exact y5
  · obtain ⟨hF, hS, e4, e76⟩ := hI
    refine ⟨zs s 12 5 1, ?_, FR_zs hF (by decide), fun j hj => ?_, zs_at, ?_, fun i hi => ?_⟩
    · show fX6_findRests_c66b N 2 (fX6_findRests_c66 N 2 m) (T : Int) (T : Int) s = _
      unfold fX6_findRests_c66b
      rw [if_pos (Int.le_refl _), zlet_v, zs_ne (by decide), e4]
    · rw [zs_ne (fun e => hj (by rw [e]; decide))]
      exact hS j hj
    · rw [zs_ne (by decide)]; exact e4
    · rw [zs_row_ne (by decide)]; exact e76 i hi
theorem findX {np nd nr : Nat} {t : Nat → Nat} {h : zH} (V : HV np nd nr t) (X : HX np nd nr t h) {N : Nat} (hN : 6600 ≤ N) (h0 : 0 < np) (h5 : np ≤ 5) (hf : h 12 5 = 0) : ∃ h', fX6_findRests N 2 h = some (((rstL np nr t).length : Int), h') ∧ FR [12, 44, 45, 76] h h' ∧ h' 12 5 = 1 ∧ h' 12 4 = ((rstL np nr t).length : Int) ∧ ∀ i, i < (rstL np nr t).length → h' 76 i = ((rstL np nr t).getD i 0 : Nat) := by
  unfold fX6_findRests
  obtain ⟨g, a1, a2, a3, a4, a5⟩ := listX V X (N := N) (by omega)
  rw [hf, if_pos zw_0, a1, zb_some, zlet_v]
  have Fz : FR [12, 45] h (zs g 12 4 0) := FR_zs a2 (by decide)
  rw [allX V (HX_44 X Fz (by decide)) (by omega) (by rw [zs_ne (by decide)]; exact a4)]
  obtain ⟨h', b1, b2, b3, b4, b5, b6⟩ := goX76 V (HX_44 X Fz (by decide)) hN h0 h5 (by rw [zs_ne (by decide)]; exact a4) (fun j hj => by rw [zs_row_ne (by decide)]; exact a5 j hj) zs_at
  refine ⟨h', b1, fun b hb => ?_, b4, b5, b6⟩
  rw [b2 b (fun e => hb ((by decide : ∀ b, b ∈ [12, 44, 76] → b ∈ [12, 44, 45, 76]) b e))]
  exact Fz b (fun e => hb ((by decide : ∀ b, b ∈ [12, 45] → b ∈ [12, 44, 45, 76]) b e))
/-- the i-th row, once they are found -/
theorem restX {np nr : Nat} {t : Nat → Nat} {h : zH} (hl : (rstL np nr t).length ≤ 3125) (h5 : h 12 5 = 1) (h4 : h 12 4 = ((rstL np nr t).length : Int)) (h76 : ∀ i, i < (rstL np nr t).length → h 76 i = ((rstL np nr t).getD i 0 : Nat)) {i : Int} (hi : zw i = i) : fX6_rest i h = (if 0 ≤ i ∧ i < (rstL np nr t).length then (((rstL np nr t).getD i.toNat 0 : Nat) : Int) else -1) := by
  unfold fX6_rest
  rw [h5, if_neg (show ¬ zw 1 = 0 by decide), hi, h4, zw_n9 (by omega)]
  by_cases c : i < 0
  · rw [if_pos c, if_neg (by omega)]
  · rw [if_neg c]
    by_cases d : ((rstL np nr t).length : Int) ≤ i
    · rw [if_pos d, if_neg (by omega)]
    · rw [if_neg d, if_pos (by omega), at_in (by omega) (by show _ < ((3125 : Nat) : Int); omega), h76 _ (by omega)]
/-- what rests does: nothing, or the rows stand -/
theorem restsX {np nd nr nn : Nat} {t : Nat → Nat} {h : zH} (V : HV np nd nr t) (X : HX np nd nr t h) (S : SHr nn np nr t h) {N : Nat} (hN : 6600 ≤ N) {i : Int} (hi : zw i = i) : ∃ h', fX10_rests N i h = some (restsV np nr t i, h') ∧ FR [12, 44, 45, 76] h h' ∧ (¬ (0 < np ∧ np ≤ 5) → h' = h) ∧ (0 < np ∧ np ≤ 5 → SHr (zN + 1) np nr t h') := by
  have vv := V.1
  unfold fX10_rests restsV
  rw [hasHillX V X, xm1 X, show zw 5 = 5 by decide, zw_n9 (show np < 1000000000 by omega), show zw (-1) = -1 by decide, hi]
  by_cases c0 : np = 0
  · rw [if_neg (show ¬ 0 < np by omega), if_pos zw_0, if_pos (by omega), if_pos c0]
    exact ⟨h, rfl, FR_rf, fun _ => rfl, fun e => absurd e.1 (by omega)⟩
  · rw [if_pos (show 0 < np by omega), if_neg (show ¬ zw 1 = 0 by decide)]
    by_cases c5 : np ≤ 5
    · rw [if_pos (show (np : Int) ≤ 5 by omega), if_pos c5, if_neg c0]
      have hl : (rstL np nr t).length ≤ 3125 := by
        rw [← lstR_all V (by omega)]
        exact Nat.le_trans (lstR_len _) (powK V c5 np (Nat.le_refl np))
      have K : ∃ h', fX6_findRests N 2 h = some (((rstL np nr t).length : Int), h') ∧ FR [12, 44, 45, 76] h h' ∧ h' 12 5 = 1 ∧ h' 12 4 = ((rstL np nr t).length : Int) ∧ ∀ i, i < (rstL np nr t).length → h' 76 i = ((rstL np nr t).getD i 0 : Nat) := by
        rcases S with s | ⟨s1, s2, s3, s4, s5⟩
        · exact findX V X hN (by omega) c5 s
        · refine ⟨h, ?_, FR_rf, s1, s4, s5⟩
          unfold fX6_findRests
          rw [s1, if_neg (show ¬ zw 1 = 0 by decide), s4]
      obtain ⟨h', k1, k2, k3, k4, k5⟩ := K
      rw [k1, z2_some]
      refine ⟨h', ?_, k2, fun e => absurd ⟨by omega, c5⟩ e, fun e => Or.inr ⟨k3, rfl, e, k4, k5⟩⟩
      by_cases c1 : i = -1
      · rw [if_pos c1, if_pos c1]
      · rw [if_neg c1, if_neg c1, restX hl k3 k4 k5 hi]
    · rw [if_neg (show ¬ (np : Int) ≤ 5 by omega), if_neg c5]
      exact ⟨h, rfl, FR_rf, fun _ => rfl, fun e => absurd e.2 c5⟩
/-- an array that stands not yet counts for nothing -/
theorem SHr_76 {nn np nr : Nat} {t : Nat → Nat} {h : zH} (S : SHr nn np nr t h) (hn : nn = zN) (r : Nat → Int) : SHr (zN + 1) np nr t (fun b => if b = 76 then r else h b) := by
  rcases S with s | ⟨s1, s2, _⟩
  · exact Or.inl s
  · rw [hn] at s2; omega
