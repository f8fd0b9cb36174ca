/-! years -/
def dx (x : Int) : Int := (x * 6364136223846793005) + 1442695040888963407
def dv (x k : Int) : Int := zl2i (zlrem (zlushr (dx x) 33) k)
theorem drawX {h : zH} {x : Int} (e : h 0 15 = x) {a : Int} (ha : 1 ≤ a ∧ a < 2147483648) : fX10_draw a h = some (dv x a, zs h 0 15 (dx x)) := by
  have ea : zw a = a := zw_id (by omega)
  have e1 : zwl a = a := by
    unfold zwl zl
    rw [Int64.toInt_ofInt_of_le (by omega) (by omega)]
  unfold fX10_draw zlet
  dsimp only
  rw [zs_at, zw_1, ea, if_pos ha.1, e1, if_pos (by omega), e]
  rfl
theorem drawM {g : zH} {x : Int} (e : g 14 47 = x) {a : Int} (ha : 1 ≤ a ∧ a < 2147483648) : fX11_draw a g = some (dv x a, zs g 14 47 (dx x)) := by
  have ea : zw a = a := zw_id (by omega)
  have e1 : zwl a = a := by
    unfold zwl zl
    rw [Int64.toInt_ofInt_of_le (by omega) (by omega)]
  unfold fX11_draw zlet
  dsimp only
  rw [zs_at, ea, e1, if_pos (by omega), e]
  rfl
def aYr (t : Nat → Nat) (nr : Nat) (s : hSt × Int) : Nat → hSt × Int
  | 0 => s
  | p + 1 => if idl t (aYr t nr s p).1 p = true then (if (t (34 + 4 * p) : Int) ≤ zw (dv (aYr t nr s p).2 10) then (aYr t nr s p).1 else fS t nr (aYr t nr s p).1 p, dx (aYr t nr s p).2) else aYr t nr s p
def yDark (t : Nat → Nat) (ec : Int) (s : hSt × Int) : Bool := decide (aT s.1 % 24 = t 0 ∧ ¬ ec ≤ zw (dv s.2 100))
def yNext (t : Nat → Nat) (s : hSt × Int) : Int := if aT s.1 % 24 = t 0 then dx s.2 else s.2
def wYs (np nd nr : Nat) (t : Nat → Nat) (gr : hGr) (ec : Int) (S : hW × Int) : hW × Int := ((aPass np nd t gr (yDark t ec (aYr t nr (S.1.1, S.2) np)) (aYr t nr (S.1.1, S.2) np).1, wKeep S.1.1 S.1.2), yNext t (aYr t nr (S.1.1, S.2) np))
def wYrN (np nd nr : Nat) (t : Nat → Nat) (gr : hGr) (ec : Int) (s : hW × Int) : Nat → hW × Int
  | 0 => s
  | n + 1 => wYs np nd nr t gr ec (wYrN np nd nr t gr ec s n)
theorem aYr_OK {np nd nr : Nat} {t : Nat → Nat} {w : hW} {x : Int} (V : HV np nd nr t) (O : WOK np nd nr t w) {p : Nat} (hp : p ≤ np) : WOK np nd nr t ((aYr t nr (w.1, x) p).1, w.2) ∧ aT (aYr t nr (w.1, x) p).1 = aT w.1 := by
  induction p with
  | zero => exact ⟨O, rfl⟩
  | succ p ih =>
    obtain ⟨i1, i2⟩ := ih (by omega)
    unfold aYr
    split
    · rename_i hc
      split
      · exact ⟨i1, i2⟩
      · have := fS_OK V i1 (show p < np by omega) hc
        exact ⟨this.1, this.2.trans i2⟩
    · exact ⟨i1, i2⟩
theorem wYs_OK {np nd nr : Nat} {t : Nat → Nat} {gr : hGr} {ec : Int} {S : hW × Int} (V : HV np nd nr t) (O : WOK np nd nr t S.1) (hT : aT S.1.1 < 9999) : WOK np nd nr t (wYs np nd nr t gr ec S).1 ∧ aT (wYs np nd nr t gr ec S).1.1 = aT S.1.1 + 1 := by
  obtain ⟨j1, j2⟩ := aYr_OK (x := S.2) V (WOK_keep O) (Nat.le_refl np)
  have j2' : aT (aYr t nr (S.1.1, S.2) np).1 = aT S.1.1 := j2
  refine ⟨passWOK (gr := gr) (dark := yDark t ec (aYr t nr (S.1.1, S.2) np)) V j1 (by show aT (aYr t nr (S.1.1, S.2) np).1 < 9999; omega), ?_⟩
  show aT (aPass np nd t gr _ (aYr t nr (S.1.1, S.2) np).1) = _
  rw [aPass_T, j2']
theorem wYrN_OK {np nd nr : Nat} {t : Nat → Nat} {gr : hGr} {ec : Int} {w : hW} {x : Int} (V : HV np nd nr t) (O : WOK np nd nr t w) (n : Nat) (hn : aT w.1 + n ≤ 9999) : WOK np nd nr t (wYrN np nd nr t gr ec (w, x) n).1 ∧ aT (wYrN np nd nr t gr ec (w, x) n).1.1 = aT w.1 + n := by
  induction n with
  | zero => exact ⟨O, rfl⟩
  | succ n ih =>
    obtain ⟨i1, i2⟩ := ih (by omega)
    obtain ⟨s1, s2⟩ := wYs_OK (gr := gr) (ec := ec) V i1 (by omega)
    exact ⟨s1, s2.trans (by omega)⟩
theorem yearX {np nd nr lim : Nat} {t : Nat → Nat} {w : hW} {h : zH} (V : HV np nd nr t) (O : WOK np nd nr t w) (H : CW np nd nr t lim w h) (hlim : lim < 900000000) (K : KM t nr h) {N : Nat} (hN : 300 ≤ N) {gr : hGr} (G : GX N 32 gr h) {ec : Int} (hec : h 0 14 = ec ∧ 0 ≤ ec ∧ ec ≤ 99) {x y : Int} (hx : zw x = x) : (¬ wCan np 240 x w → fX10_years N x y h = some (-1, h)) ∧ (wCan np 240 x w → ∃ h', fX10_years N x y h = some ((aT (wYrN np nd nr t gr ec (w, y) x.toNat).1.1 : Int), h') ∧ FR [0, 5, 10, 26, 30, 31, 32, 33, 42, 43] h h' ∧ FS 5 [5] h h' ∧ FS 0 [15] h h' ∧ KM t nr h' ∧ CW np nd nr t (lim + 240) (wYrN np nd nr t gr ec (w, y) x.toNat).1 h') := by
  have v := V.1
  have v0 := V.2.2.1
  obtain ⟨c1, c2⟩ := canPX V O H hx (most := 240) (by decide)
  refine ⟨fun hc => ?_, fun hc => ?_⟩
  · unfold fX10_years
    rw [c2 hc, zif0]
  · have hc' := hc
    obtain ⟨h0, h1, h2, h3⟩ := hc
    obtain ⟨n, rfl⟩ := Int.eq_ofNat_of_zero_le (show 0 ≤ x by omega)
    rw [Int.toNat_natCast]
    unfold fX10_years
    rw [c1 hc', zif1, zlet_v]
    have F0 : FR [0, 5, 10, 26, 30, 31, 32, 33, 42, 43] h (zs h 0 15 y) := fun b hb => zs_row_ne (fun e => hb (by rw [e]; decide))
    refine zloopq (F := fun k i (s : zH) => fX10_years_c21 N k (n : Int) i s) (n := n) (s := zs h 0 15 y) (fun i s => FR [0, 5, 10, 26, 30, 31, 32, 33, 42, 43] h s ∧ FS 5 [5] h s ∧ FS 0 [15] h s ∧ s 0 15 = (wYrN np nd nr t gr ec (w, y) i).2 ∧ KM t nr s ∧ CW np nd nr t (lim + i) (wYrN np nd nr t gr ec (w, y) i).1 s) (fun b => ∃ h', b = some ((aT (wYrN np nd nr t gr ec (w, y) n).1.1 : Int), h') ∧ FR [0, 5, 10, 26, 30, 31, 32, 33, 42, 43] h h' ∧ FS 5 [5] h h' ∧ FS 0 [15] h h' ∧ KM t nr h' ∧ CW np nd nr t (lim + 240) (wYrN np nd nr t gr ec (w, y) n).1 h') (fun k i s hi hI => ?_) (fun k s hI => ?_) (by omega) ⟨F0, fun j _ => by rw [zs_row_ne (by decide)], fun j hj => zs_ne (fun e => hj (by rw [e]; decide)), zs_at, fun l m hl hm => by rw [zs_row_ne (by decide)]; exact K l m hl hm, CW_to H (by omega) (zs_row_ne (by decide)) (zs_row_ne (by decide)) (zs_row_ne (by decide)) (zs_row_ne (by decide)) (zs_row_ne (by decide)) (zs_row_ne (by decide)) (zs_row_ne (by decide))⟩
    · obtain ⟨i1, i2, i0, ix, iK, i3⟩ := hI
      obtain ⟨o1, o2⟩ := wYrN_OK (gr := gr) (ec := ec) (x := y) V O i (by omega)
      have Ok := WOK_keep o1
      obtain ⟨hk, e1, e2, e3⟩ := CW_keep V o1 i3 (by omega)
      have F5 : FS 5 [5] h hk := FS_tr i2 (FS_of e2 (by decide))
      have F00 : FS 0 [15] h hk := FS_tr i0 (FS_of e2 (by decide))
      have F : FR [0, 5, 10, 26, 30, 31, 32, 33, 42, 43] h hk := FR_tr i1 (FR_up e2 (by decide))
      have Kk : KM t nr hk := fun l m hl hm => by rw [e2 43 (by decide)]; exact iK l m hl hm
      have xk : hk 0 15 = (wYrN np nd nr t gr ec (w, y) i).2 := by rw [e2 0 (by decide)]; exact ix
      generalize hS : wYrN np nd nr t gr ec (w, y) i = S at *
      have eS : wYrN np nd nr t gr ec (w, y) (i + 1) = ((aPass np nd t gr (yDark t ec (aYr t nr (S.1.1, S.2) np)) (aYr t nr (S.1.1, S.2) np).1, wKeep S.1.1 S.1.2), yNext t (aYr t nr (S.1.1, S.2) np)) := by
        exact congrArg (wYs np nd nr t gr ec) hS
      left
      have inner : ∃ h4, fX10_years_c41 N (fX10_years_c21 N k) N (n : Int) (i : Int) 0 hk = fX10_years_c21 N k (n : Int) ((i + 1 : Nat) : Int) h4 ∧ FR [0, 5, 10, 26, 30, 31, 32, 33, 42, 43] h h4 ∧ FS 5 [5] h h4 ∧ FS 0 [15] h h4 ∧ h4 0 15 = yNext t (aYr t nr (S.1.1, S.2) np) ∧ KM t nr h4 ∧ CW np nd nr t (lim + i + 1) (aPass np nd t gr (yDark t ec (aYr t nr (S.1.1, S.2) np)) (aYr t nr (S.1.1, S.2) np).1, wKeep S.1.1 S.1.2) h4 := by
        refine zloopq (F := fun k' j (s : zH) => fX10_years_c41 N (fX10_years_c21 N k) k' (n : Int) (i : Int) j s) (n := np) (s := hk) (fun j s => FR [0, 5, 10, 26, 30, 31, 32, 33, 42, 43] h s ∧ FS 5 [5] h s ∧ FS 0 [15] h s ∧ s 0 15 = (aYr t nr (S.1.1, S.2) j).2 ∧ KM t nr s ∧ CW np nd nr t (lim + i + 1) ((aYr t nr (S.1.1, S.2) j).1, wKeep S.1.1 S.1.2) s) (fun b => ∃ h4, b = fX10_years_c21 N k (n : Int) ((i + 1 : Nat) : Int) h4 ∧ FR [0, 5, 10, 26, 30, 31, 32, 33, 42, 43] h h4 ∧ FS 5 [5] h h4 ∧ FS 0 [15] h h4 ∧ h4 0 15 = yNext t (aYr t nr (S.1.1, S.2) np) ∧ KM t nr h4 ∧ CW np nd nr t (lim + i + 1) (aPass np nd t gr (yDark t ec (aYr t nr (S.1.1, S.2) np)) (aYr t nr (S.1.1, S.2) np).1, wKeep S.1.1 S.1.2) h4) (fun k' j s hj hJ => ?_) (fun k' s hJ => ?_) (by omega) ⟨F, F5, F00, xk, Kk, e3⟩
        · obtain ⟨j1, j2, j0, jx, jK, j3⟩ := hJ
          obtain ⟨p1, p2⟩ := aYr_OK (x := S.2) V Ok (Nat.le_of_lt hj)
          have hz := (V.2.2.2.1 j hj).2.2
          have C5 : CW np nd nr t (lim + i + 1) ((aYr t nr (S.1.1, S.2) j).1, wKeep S.1.1 S.1.2) (zs s 0 15 (dx (aYr t nr (S.1.1, S.2) j).2)) := CW_to j3 (Nat.le_refl _) (zs_row_ne (by decide)) (zs_row_ne (by decide)) (zs_row_ne (by decide)) (zs_row_ne (by decide)) (zs_row_ne (by decide)) (zs_row_ne (by decide)) (zs_row_ne (by decide))
          have F1 : FR [0, 5, 10, 26, 30, 31, 32, 33, 42, 43] h (zs s 0 15 (dx (aYr t nr (S.1.1, S.2) j).2)) := FR_tr j1 (fun b hb => zs_row_ne (fun e => hb (by rw [e]; decide)))
          have F2 : FS 5 [5] h (zs s 0 15 (dx (aYr t nr (S.1.1, S.2) j).2)) := FS_tr j2 (fun q _ => by rw [zs_row_ne (by decide)])
          have F3 : FS 0 [15] h (zs s 0 15 (dx (aYr t nr (S.1.1, S.2) j).2)) := FS_tr j0 (fun q hq => zs_ne (fun e => hq (by rw [e]; decide)))
          have K1 : KM t nr (zs s 0 15 (dx (aYr t nr (S.1.1, S.2) j).2)) := fun l m hl hm => by rw [zs_row_ne (by decide)]; exact jK l m hl hm
          left
          have e : fX10_years_c41 N (fX10_years_c21 N k) (k' + 1) (n : Int) (i : Int) (j : Int) s = if idl t (aYr t nr (S.1.1, S.2) j).1 j = true then (if (t (34 + 4 * j) : Int) ≤ zw (dv (aYr t nr (S.1.1, S.2) j).2 10) then fX10_years_c41 N (fX10_years_c21 N k) k' (n : Int) (i : Int) ((j + 1 : Nat) : Int) (zs s 0 15 (dx (aYr t nr (S.1.1, S.2) j).2)) else zb (fX10_fileSoonest N (j : Int) (zs s 0 15 (dx (aYr t nr (S.1.1, S.2) j).2))) (fun h4 => fX10_years_c41 N (fX10_years_c21 N k) k' (n : Int) (i : Int) ((j + 1 : Nat) : Int) h4)) else fX10_years_c41 N (fX10_years_c21 N k) k' (n : Int) (i : Int) ((j + 1 : Nat) : Int) s := by
            show fX10_years_c41b N (fX10_years_c21 N k) (fX10_years_c41 N (fX10_years_c21 N k) k') _ _ _ _ = _
            unfold fX10_years_c41b
            rw [xm1 j3.1, zw_id (show -2147483648 ≤ (np : Int) ∧ (np : Int) < 2147483648 by omega), zw_id (show -2147483648 ≤ (j : Int) ∧ (j : Int) < 2147483648 by omega), if_neg (by omega), idlX V p1 j3 hj, zq, drawX jx (by decide), z2_some, xi12 V C5.1 hj, zw_id (show -2147483648 ≤ (t (34 + 4 * j) : Int) ∧ (t (34 + 4 * j) : Int) < 2147483648 by omega)]
            rfl
          have et : aYr t nr (S.1.1, S.2) (j + 1) = if idl t (aYr t nr (S.1.1, S.2) j).1 j = true then (if (t (34 + 4 * j) : Int) ≤ zw (dv (aYr t nr (S.1.1, S.2) j).2 10) then (aYr t nr (S.1.1, S.2) j).1 else fS t nr (aYr t nr (S.1.1, S.2) j).1 j, dx (aYr t nr (S.1.1, S.2) j).2) else aYr t nr (S.1.1, S.2) j := rfl
          rw [et]
          by_cases hid : idl t (aYr t nr (S.1.1, S.2) j).1 j = true
          · rw [if_pos hid] at e ⊢
            by_cases hzz : (t (34 + 4 * j) : Int) ≤ zw (dv (aYr t nr (S.1.1, S.2) j).2 10)
            · rw [if_pos hzz] at e ⊢
              exact ⟨_, e, F1, F2, F3, zs_at, K1, C5⟩
            · rw [if_neg hzz] at e ⊢
              obtain ⟨h5, f1, f2, f3, f4⟩ := fSX V p1 C5 K1 (show 10 ≤ N by omega) hj hid
              rw [f1, zb_some] at e
              exact ⟨h5, e, FR_tr F1 (FR_up f2 (by decide)), FS_tr F2 (FS_of f2 (by decide)), FS_tr F3 (FS_of f2 (by decide)), by rw [f2 0 (by decide)]; exact zs_at, f3, f4⟩
          · rw [if_neg hid] at e ⊢
            exact ⟨s, e, j1, j2, j0, jx, jK, j3⟩
        · obtain ⟨j1, j2, j0, jx, jK, j3⟩ := hJ
          obtain ⟨p1, p2⟩ := aYr_OK (x := S.2) V Ok (Nat.le_refl np)
          have p2' : aT (aYr t nr (S.1.1, S.2) np).1 = aT S.1.1 := p2
          have hT : aT ((aYr t nr (S.1.1, S.2) np).1, wKeep S.1.1 S.1.2).1 < 9999 := by
            show aT (aYr t nr (S.1.1, S.2) np).1 < 9999
            omega
          have e : fX10_years_c41 N (fX10_years_c21 N k) (k' + 1) (n : Int) (i : Int) (np : Int) s = if aT (aYr t nr (S.1.1, S.2) np).1 % 24 = t 0 then fX10_years_c127 N (fX10_years_c21 N k) (n : Int) (i : Int) 1 s else fX10_years_c127 N (fX10_years_c21 N k) (n : Int) (i : Int) 0 s := by
            show fX10_years_c41b N (fX10_years_c21 N k) (fX10_years_c41 N (fX10_years_c21 N k) k') _ _ _ _ = _
            unfold fX10_years_c41b
            have htw : aT (aYr t nr (S.1.1, S.2) np).1 % 24 < 24 := Nat.mod_lt _ (by decide)
            rw [xm1 j3.1, if_pos (by omega), timX7 (T := aT (aYr t nr (S.1.1, S.2) np).1) j3.2.1.2.1 (by omega), xis0 j3.1 h0, zw_id (show -2147483648 ≤ ((aT (aYr t nr (S.1.1, S.2) np).1 % 24 : Nat) : Int) ∧ ((aT (aYr t nr (S.1.1, S.2) np).1 % 24 : Nat) : Int) < 2147483648 by omega), zw_id (show -2147483648 ≤ (t 0 : Int) ∧ (t 0 : Int) < 2147483648 by omega)]
            by_cases hd : aT (aYr t nr (S.1.1, S.2) np).1 % 24 = t 0
            · rw [if_pos (by omega), if_pos hd]
            · rw [if_neg (by omega), if_neg hd]
          show ∃ h4, fX10_years_c41 N (fX10_years_c21 N k) (k' + 1) (n : Int) (i : Int) (np : Int) s = _ ∧ _
          rw [e]
          have fin : ∀ (dark : Bool) (s' : zH) (z : Int), s' 0 15 = z → FR [0, 5, 10, 26, 30, 31, 32, 33, 42, 43] h s' → FS 5 [5] h s' → FS 0 [15] h s' → KM t nr s' → CW np nd nr t (lim + i + 1) ((aYr t nr (S.1.1, S.2) np).1, wKeep S.1.1 S.1.2) s' → ∃ h4, (zb (fX8_pass N 7 2 (dkI dark) s') fun h2 => fX10_years_c21 N k (n : Int) ((i : Int) + 1) h2) = fX10_years_c21 N k (n : Int) ((i + 1 : Nat) : Int) h4 ∧ FR [0, 5, 10, 26, 30, 31, 32, 33, 42, 43] h h4 ∧ FS 5 [5] h h4 ∧ FS 0 [15] h h4 ∧ h4 0 15 = z ∧ KM t nr h4 ∧ CW np nd nr t (lim + i + 1) (aPass np nd t gr dark (aYr t nr (S.1.1, S.2) np).1, wKeep S.1.1 S.1.2) h4 := by
            intro dark s' z hz F1 F2 F3 K1 C5
            obtain ⟨h5, f1, f2, f3, f4⟩ := passCW (dark := dark) V p1 C5 (show 8 ≤ N by omega) (GX_F G F1 F2 (by decide) (by decide)) hT h0
            rw [f1, zb_some]
            exact ⟨h5, rfl, FR_tr F1 (FR_up f2 (by decide)), FS_tr F2 f3, FS_tr F3 (FS_of f2 (by decide)), by rw [f2 0 (by decide)]; exact hz, fun l m hl hm => by rw [f2 43 (by decide)]; exact K1 l m hl hm, f4⟩
          by_cases hd : aT (aYr t nr (S.1.1, S.2) np).1 % 24 = t 0
          · rw [if_pos hd]
            unfold fX10_years_c127
            have e14 : zs s 0 15 (dx (aYr t nr (S.1.1, S.2) np).2) 0 14 = ec := by rw [zs_ne (by decide), j0 14 (by decide)]; exact hec.1
            rw [zif1, drawX jx (by decide), z2_some, e14, zw_id (show -2147483648 ≤ ec ∧ ec < 2147483648 by omega)]
            have C5 : CW np nd nr t (lim + i + 1) ((aYr t nr (S.1.1, S.2) np).1, wKeep S.1.1 S.1.2) (zs s 0 15 (dx (aYr t nr (S.1.1, S.2) np).2)) := CW_to j3 (Nat.le_refl _) (zs_row_ne (by decide)) (zs_row_ne (by decide)) (zs_row_ne (by decide)) (zs_row_ne (by decide)) (zs_row_ne (by decide)) (zs_row_ne (by decide)) (zs_row_ne (by decide))
            have F1 : FR [0, 5, 10, 26, 30, 31, 32, 33, 42, 43] h (zs s 0 15 (dx (aYr t nr (S.1.1, S.2) np).2)) := FR_tr j1 (fun b hb => zs_row_ne (fun e => hb (by rw [e]; decide)))
            have F2 : FS 5 [5] h (zs s 0 15 (dx (aYr t nr (S.1.1, S.2) np).2)) := FS_tr j2 (fun q _ => by rw [zs_row_ne (by decide)])
            have F3 : FS 0 [15] h (zs s 0 15 (dx (aYr t nr (S.1.1, S.2) np).2)) := FS_tr j0 (fun q hq => zs_ne (fun e => hq (by rw [e]; decide)))
            have K1 : KM t nr (zs s 0 15 (dx (aYr t nr (S.1.1, S.2) np).2)) := fun l m hl hm => by rw [zs_row_ne (by decide)]; exact jK l m hl hm
            have eN : yNext t (aYr t nr (S.1.1, S.2) np) = dx (aYr t nr (S.1.1, S.2) np).2 := if_pos hd
            by_cases hz : ec ≤ zw (dv (aYr t nr (S.1.1, S.2) np).2 100)
            · have eD : yDark t ec (aYr t nr (S.1.1, S.2) np) = false := decide_eq_false (fun q => q.2 hz)
              rw [if_pos hz, eD, eN]
              exact fin false _ _ zs_at F1 F2 F3 K1 C5
            · have eD : yDark t ec (aYr t nr (S.1.1, S.2) np) = true := decide_eq_true ⟨hd, hz⟩
              rw [if_neg hz, eD, eN]
              exact fin true _ _ zs_at F1 F2 F3 K1 C5
          · rw [if_neg hd]
            unfold fX10_years_c127
            have eN : yNext t (aYr t nr (S.1.1, S.2) np) = (aYr t nr (S.1.1, S.2) np).2 := if_neg hd
            have eD : yDark t ec (aYr t nr (S.1.1, S.2) np) = false := decide_eq_false (fun q => hd q.1)
            rw [zif0, eD, eN]
            exact fin false s _ jx j1 j2 j0 jK j3
      obtain ⟨h4, g1, g2, g3, g4, g5, g6, g7⟩ := inner
      rw [eS]
      refine ⟨h4, ?_, g2, g3, g4, g5, g6, g7⟩
      show fX10_years_c21b N (fX10_years_c21 N k) _ _ _ = _
      unfold fX10_years_c21b
      rw [zw_id (show -2147483648 ≤ (n : Int) ∧ (n : Int) < 2147483648 by omega), zw_id (show -2147483648 ≤ (i : Int) ∧ (i : Int) < 2147483648 by omega), if_neg (by omega), e1, zb_some]
      exact g1
    · obtain ⟨i1, i2, i0, ix, iK, i3⟩ := hI
      refine ⟨s, ?_, i1, i2, i0, iK, CW_to i3 (by omega) rfl rfl rfl rfl rfl rfl rfl⟩
      show fX10_years_c21b N (fX10_years_c21 N k) _ _ _ = _
      unfold fX10_years_c21b
      rw [if_pos (by omega), show fX8_hour 7 s = (aT (wYrN np nd nr t gr ec (w, y) n).1.1 : Int) from i3.2.1.2.1]
