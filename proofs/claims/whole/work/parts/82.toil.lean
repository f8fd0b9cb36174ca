/-! who files by the best row; toil, years -/
theorem pcn_cb : ∀ s : Nat, s < 256 → pcn s = cb s := by decide +kernel
def idl (t : Nat → Nat) (a : hSt) (p : Nat) : Bool := decide (aW a p = -1) && !(aH a p).testBit (t (32 + 4 * p))
def fS (t : Nat → Nat) (nr : Nat) (a : hSt) (p : Nat) : hSt := match sBl t nr a p with
  | none => a
  | some z => aEnq p (z.2.1 / 10 ^ (cb (Lp t nr a p 0) - 1)) a
theorem idl_w {t : Nat → Nat} {a : hSt} {p : Nat} (h : idl t a p = true) : aW a p = -1 ∧ (aH a p).testBit (t (32 + 4 * p)) = false := by
  have h1 := Bool.and_eq_true_iff.mp h
  refine ⟨of_decide_eq_true h1.1, ?_⟩
  cases hb : (aH a p).testBit (t (32 + 4 * p)) with
  | true => rw [hb] at h1; cases h1.2
  | false => rfl
theorem idl_L {np nd nr : Nat} {t : Nat → Nat} {a : hSt} (V : HV np nd nr t) (A : AV np nd nr t a) {p : Nat} (hp : p < np) (h : idl t a p = true) : Lp t nr a p 0 ≠ 0 := by
  have v := V.1
  have hf := (V.2.2.2.1 p hp).1
  have hH := (A.1 p hp).1
  have hb := (idl_w h).2
  intro e
  have h1 : sub (bdiff (2 ^ t (32 + 4 * p)) (aH a p ||| 0)) (Lp t nr a p 0) := by
    have : ∀ k, sub (bdiff (2 ^ t (32 + 4 * p)) (aH a p ||| 0)) (swpN t nr (aH a p ||| 0) (bdiff (2 ^ t (32 + 4 * p)) (aH a p ||| 0)) k) := by
      intro k
      induction k with
      | zero => exact fun _ h => h
      | succ k ih => exact fun i hi => swp_sub (Nat.zero_le nr) i (ih i hi)
    exact this 8
  rw [Nat.or_zero, bdiff_form (by omega) hH, hb, if_neg (by decide), e] at h1
  have := h1 (t (32 + 4 * p)) (by rw [Nat.testBit_two_pow, decide_eq_true rfl])
  rw [Nat.zero_testBit] at this
  cases this
/-- the paper that is filed may be filed -/
theorem fS_can {np nd nr : Nat} {t : Nat → Nat} {a : hSt} (V : HV np nd nr t) (A : AV np nd nr t a) {p i : Nat} (hp : p < np) (h : idl t a p = true) (hn : nxt t (Lp t nr a p 0) i = true) (hi : i < nr) : canF t a p i = true := by
  obtain ⟨q1, q2, q3, q4⟩ := Lp_f V A hp (b := 0) (by decide)
  rw [Nat.or_zero] at q1 q3 q4
  have hbit := nxt_bit hn
  have h1 := (q3 i hbit).2
  have h2 := (nxt_held V q4 q3 (fun _ h => h) q2 (held := aH a p) (fun j hj => by
    cases h1 : (Lp t nr a p 0).testBit j with
    | true => rw [Bool.not_true, Bool.and_false, Bool.or_false]
    | false => rw [Bool.false_and, Bool.or_false]) hi hbit).mpr (of_decide_eq_true (Bool.and_eq_true_iff.mp hn).2)
  unfold canF
  rw [decide_eq_true (idl_w h).1, h1, decide_eq_true h2]
  rfl
theorem fS_paper {np nd nr : Nat} {t : Nat → Nat} {a : hSt} (V : HV np nd nr t) (A : AV np nd nr t a) {p : Nat} (hp : p < np) (h : idl t a p = true) {z : Nat × Nat × Nat} (hz : sBl t nr a p = some z) {i : Nat} (hF : isF t nr (Lp t nr a p 0) (aT a % 24) i) : z.2.1 / 10 ^ (cb (Lp t nr a p 0) - 1) = i ∧ i < nr ∧ nxt t (Lp t nr a p 0) i = true := by
  obtain ⟨q1, q2, q3, q4⟩ := Lp_f V A hp (b := 0) (by decide)
  obtain ⟨r1, r2, r3, y, r4, r5, r6⟩ := isF_row V q2 (Nat.mod_lt _ (by decide)) hz hF
  refine ⟨?_, r1, r2⟩
  rw [r5, Nat.mul_comm, Nat.mul_add_div (Nat.pow_pos (by decide)), Nat.div_eq_of_lt r6, Nat.add_zero]
theorem fS_ex {np nd nr : Nat} {t : Nat → Nat} {a : hSt} (V : HV np nd nr t) (A : AV np nd nr t a) {p : Nat} (hp : p < np) (h : idl t a p = true) {z : Nat × Nat × Nat} (hz : sBl t nr a p = some z) : z.2.1 / 10 ^ (cb (Lp t nr a p 0) - 1) < nr ∧ canF t a p (z.2.1 / 10 ^ (cb (Lp t nr a p 0) - 1)) = true := by
  obtain ⟨i, hF⟩ := isF_ex (Lp_f V A hp (b := 0) (by decide)).2.1 (idl_L V A hp h) hz
  obtain ⟨e1, e2, e3⟩ := fS_paper V A hp h hz hF
  rw [e1]
  exact ⟨e2, fS_can V A hp h e3 e2⟩
theorem fS_OK {np nd nr : Nat} {t : Nat → Nat} {w : hW} (V : HV np nd nr t) (O : WOK np nd nr t w) {p : Nat} (hp : p < np) (h : idl t w.1 p = true) : WOK np nd nr t (fS t nr w.1 p, w.2) ∧ aT (fS t nr w.1 p) = aT w.1 := by
  unfold fS
  cases hz : sBl t nr w.1 p with
  | none => exact ⟨O, rfl⟩
  | some z =>
    obtain ⟨e1, e2⟩ := fS_ex V O.1.1 hp h hz
    exact ⟨WOK_set O (aEnq_OK V O.1 hp e1 (canF_w e2)) (Nat.le_refl _), rfl⟩
theorem MW_F {np nd nr B : Nat} {t : Nat → Nat} {w : hW} {g g' : zH} {L J : List Nat} (H : MW np nd nr t B w g) (F : FR L g g') (F2 : FS 14 J g g') (h1 : 63 ∉ L ∧ 64 ∉ L ∧ 65 ∉ L ∧ 66 ∉ L ∧ 69 ∉ L ∧ 70 ∉ L) (h2 : 28 ∉ J ∧ 29 ∉ J ∧ 30 ∉ J ∧ 38 ∉ J) : MW np nd nr t B w g' := by
  obtain ⟨H1, H2, H3⟩ := H
  exact ⟨HM_to H1 ⟨F2 28 h2.1, F2 29 h2.2.1, F2 30 h2.2.2.1⟩ (F 63 h1.1) (F 64 h1.2.1) (F 65 h1.2.2.1) (F 66 h1.2.2.2.1), by rw [F 69 h1.2.2.2.2.1]; exact H2, AMo_to H3 (Nat.le_refl _) (F2 38 h2.2.2.2) (F 70 h1.2.2.2.2.2)⟩
theorem CW_F {np nd nr lim : Nat} {t : Nat → Nat} {w : hW} {h h' : zH} {L : List Nat} (H : CW np nd nr t lim w h) (F : FR L h h') (hL : 10 ∉ L ∧ 16 ∉ L ∧ 17 ∉ L ∧ 18 ∉ L ∧ 30 ∉ L ∧ 31 ∉ L ∧ 42 ∉ L) : CW np nd nr t lim w h' := CW_to H (Nat.le_refl _) (F 10 hL.1) (F 16 hL.2.1) (F 17 hL.2.2.1) (F 18 hL.2.2.2.1) (F 30 hL.2.2.2.2.1) (F 31 hL.2.2.2.2.2.1) (F 42 hL.2.2.2.2.2.2)
theorem idlX {np nd nr lim : Nat} {t : Nat → Nat} {w : hW} {h : zH} (V : HV np nd nr t) (O : WOK np nd nr t w) (H : CW np nd nr t lim w h) {p : Nat} (hp : p < np) : fX8_isIdle 7 2 (p : Int) h = if idl t w.1 p = true then 1 else 0 := by
  have v := V.1
  have hw := aW_w O.1.1 hp
  have hH := (O.1.1.1 p hp).1
  have hf := (V.2.2.2.1 p hp).1
  unfold fX8_isIdle idl
  rw [ox7_1 (by omega), (H.2.1.1 p hp).2.1, ox7_0 (by omega), (H.2.1.1 p hp).1, xi10 V H.1 hp, isIn_tab _ hH _ (by omega), zlet_v, zq, zw_id (show -2147483648 ≤ aW w.1 p ∧ aW w.1 p < 2147483648 by omega), zw_m1]
  by_cases c1 : aW w.1 p = -1
  · rw [if_pos c1, decide_eq_true c1, Bool.true_and]
    cases (aH w.1 p).testBit (t (32 + 4 * p)) with
    | true => rfl
    | false => rfl
  · rw [if_neg c1, decide_eq_false c1, Bool.false_and, if_neg (by decide)]
theorem idlM {np nd nr B : Nat} {t : Nat → Nat} {w : hW} {g : zH} (V : HV np nd nr t) (O : WOK np nd nr t w) (H : MW np nd nr t B w g) {p : Nat} (hp : p < np) : fX11_isIdle (p : Int) g = some (if idl t w.1 p = true then 1 else 0) := by
  have v := V.1
  have hw := aW_w O.1.1 hp
  have hH := (O.1.1.1 p hp).1
  have hf := (V.2.2.2.1 p hp).1
  unfold fX11_isIdle idl
  rw [om_1 (by omega), zb_some, om_0 (by omega), zb_some, (H.2.1.1 p hp).1, (H.2.1.1 p hp).2.1, mform V H.1 hp, zb_some, has_tab _ hH _ (by omega), zq, zw_id (show -2147483648 ≤ aW w.1 p ∧ aW w.1 p < 2147483648 by omega), zw_m1]
  by_cases c1 : aW w.1 p = -1
  · rw [if_pos c1, decide_eq_true c1, Bool.true_and]
    cases (aH w.1 p).testBit (t (32 + 4 * p)) with
    | true => rfl
    | false => rfl
  · rw [if_neg c1, decide_eq_false c1, Bool.false_and, if_neg (by decide)]
theorem fSX {np nd nr lim : Nat} {t : Nat → Nat} {w : hW} {h : zH} (V : HV np nd nr t) (O : WOK np nd nr t w) (H : CW np nd nr t lim w h) (K : KM t nr h) {N : Nat} (hN : 10 ≤ N) {p : Nat} (hp : p < np) (hi : idl t w.1 p = true) : ∃ h', fX10_fileSoonest N (p : Int) h = some h' ∧ FR [30, 43] h h' ∧ KM t nr h' ∧ CW np nd nr t lim (fS t nr w.1 p, w.2) h' := by
  have v := V.1
  have a4 := O.1.2.2.2
  obtain ⟨q1, q2, q3, q4⟩ := Lp_f V O.1.1 hp (b := 0) (by decide)
  obtain ⟨x, h1, e1, e2, e3, e4⟩ := firstXr V hN H.1 K q2 (Nat.mod_lt (aT w.1) (show 0 < 24 by decide))
  have C1 : CW np nd nr t lim w h1 := CW_F H e2 (by decide)
  unfold fX10_fileSoonest
  rw [show fX10_lacksOf N (p : Int) 0 h = some (Lp t nr w.1 p 0 : Int) from lacksOfX V H.1 O.1.1 H.2.1 hN hp (b := 0) (by decide), zb_some, timX7 H.2.1.2.1 (by omega), e1, z2_some]
  rcases e4 with ⟨rfl, e4⟩ | ⟨i, rfl, hF⟩
  · have hnone : sBl t nr w.1 p = none := by
      rcases e4 with e4 | e4
      · exact absurd e4 (idl_L V O.1.1 hp hi)
      · exact e4
    rw [alX7_0 V C1.1 O.1.1 C1.2.1 (zw_id (by omega)) zw_m1, zq, if_neg (fun y => by omega)]
    unfold fS
    rw [hnone]
    exact ⟨h1, rfl, FR_up e2 (by decide), e3, C1⟩
  · cases hz : sBl t nr w.1 p with
    | none =>
      obtain ⟨-, z, hz', -⟩ := hF
      have : sBl t nr w.1 p = some z := hz'
      rw [hz] at this; cases this
    | some z =>
      obtain ⟨r1, r2, r3⟩ := fS_paper V O.1.1 hp hi hz hF
      have hc := fS_can V O.1.1 hp hi r3 r2
      rw [alX7_0 V C1.1 O.1.1 C1.2.1 (zw_id (by omega)) (zw_id (by omega)), Int.toNat_natCast, Int.toNat_natCast, zq, if_pos ⟨by omega, hc⟩]
      obtain ⟨h2, f1, f2, f3⟩ := enqCW V O C1 hp r2 (canF_w hc)
      rw [zlet_v, f1]
      refine ⟨h2, rfl, FR_tr (FR_up e2 (by decide)) (FR_up f2 (by decide)), ?_, ?_⟩
      · intro l m hl hm
        rw [f2 43 (by decide)]
        exact e3 l m hl hm
      · unfold fS
        rw [hz]
        dsimp only
        rw [r1]
        exact f3
theorem tenM {N : Nat} (hN : 12 ≤ N) {n : Nat} (hn : n ≤ 8) : fX11_ten N (n : Int) = some ((10 ^ n : Nat) : Int) := by
  refine zloopq (F := fun k i (s : Int) => fX11_ten_c4 N k (n : Int) s i) (n := n) (s := 1) (fun i s => s = ((10 ^ i : Nat) : Int)) (fun b => b = some ((10 ^ n : Nat) : Int)) (fun k i s hi hI => ?_) (fun k s hI => ?_) (by omega) rfl
  · left
    refine ⟨_, ?_, rfl⟩
    show fX11_ten_c4b N (fX11_ten_c4 N k) _ _ _ = _
    unfold fX11_ten_c4b
    rw [zw_id (show -2147483648 ≤ (n : Int) ∧ (n : Int) < 2147483648 by omega), zw_id (show -2147483648 ≤ (i : Int) ∧ (i : Int) < 2147483648 by omega), if_neg (by omega), hI, Nat.pow_succ]
    rfl
  · show fX11_ten_c4b N (fX11_ten_c4 N k) _ _ _ = _
    unfold fX11_ten_c4b
    rw [if_pos (by omega), hI]
theorem pow10_le {n : Nat} (h : n ≤ 8) : 1 ≤ 10 ^ n ∧ 10 ^ n ≤ 100000000 := ⟨Nat.pow_pos (by decide), (Nat.pow_le_pow_right (by decide) h : 10 ^ n ≤ 10 ^ 8)⟩
theorem fSM {np nd nr B : Nat} {t : Nat → Nat} {w : hW} {g : zH} (V : HV np nd nr t) (O : WOK np nd nr t w) (H : MW np nd nr t B w g) {N : Nat} (hN : 1100 ≤ N) {p : Nat} (hp : p < np) (hi : idl t w.1 p = true) : ∃ g', fX11_fileSoonest N (p : Int) g = some g' ∧ FR [14, 69] g g' ∧ FS 14 [40, 41, 42] g g' ∧ MW np nd nr t (B + 1) (fS t nr w.1 p, w.2) g' := by
  have v := V.1
  have a4 := O.1.2.2.2
  obtain ⟨q1, q2, q3, q4⟩ := Lp_f V O.1.1 hp (b := 0) (by decide)
  have lk := lacksM V H.1 O.1.1 (N := N) (by omega) hp (b := 0) (by decide)
  rw [Nat.or_zero] at lk
  obtain ⟨g1, e1, e2, e3, e4, e5⟩ := layM V H.1 O.1.1 H.2.1.2.1 a4 hN hp
  have M1 : MW np nd nr t B w g1 := MW_F H e2 e3 (by decide) (by decide)
  have hc0 : cb (Lp t nr w.1 p 0) ≠ 0 := fun e => idl_L V O.1.1 hp hi (cb_0 _ q2 e)
  have hc8 := cb_le (Lp t nr w.1 p 0)
  obtain ⟨u1, u2⟩ := pcn_e _ q2
  have hb := hrs_b V q2 (Nat.mod_lt (aT w.1) (show 0 < 24 by decide))
  unfold fX11_fileSoonest
  rw [om_0 (by omega), zb_some, (H.2.1.1 p hp).1, lk, zb_some, zlet_v, zb_some, e1, zb_some, e4, u1, pcn_cb _ q2, zw_m1]
  unfold fS
  cases hz : sBl t nr w.1 p with
  | none =>
    rw [show hrs none = -1 from rfl, zw_m1, if_pos rfl]
    exact ⟨g1, rfl, FR_up e2 (by decide), e3, MW_B M1 (by omega)⟩
  | some z =>
    obtain ⟨y1, y2⟩ := e5 z hz
    rw [if_neg (idl_L V O.1.1 hp hi)] at y1
    obtain ⟨z1, z2⟩ := fS_ex V O.1.1 hp hi hz
    have zlt := (bl_lt V _ q2 _ (Nat.mod_lt _ (by decide)) z hz).2
    have pw := pow10_le hc8
    have pw1 := pow10_le (show cb (Lp t nr w.1 p 0) - 1 ≤ 8 by omega)
    have hb2 : (z.1 : Int) ≤ 8000 := by
      have : hrs (bl t nr 8 (Lp t nr w.1 p 0) (aT w.1 % 24)) = (z.1 : Int) := by
        have h2 : bl t nr 8 (Lp t nr w.1 p 0) (aT w.1 % 24) = some z := hz
        rw [h2]; rfl
      omega
    rw [show hrs (some z) = (z.1 : Int) from rfl, zw_id (show -2147483648 ≤ (z.1 : Int) ∧ (z.1 : Int) < 2147483648 by omega), if_neg (by omega), y1]
    unfold fX11_firstDigit
    rw [show (cb (Lp t nr w.1 p 0) : Int) - 1 = ((cb (Lp t nr w.1 p 0) - 1 : Nat) : Int) by omega, tenM (by omega) (by omega), zb_some, zw_id (show -2147483648 ≤ ((10 ^ (cb (Lp t nr w.1 p 0) - 1) : Nat) : Int) ∧ ((10 ^ (cb (Lp t nr w.1 p 0) - 1) : Nat) : Int) < 2147483648 by omega), if_pos (by omega), zb_some, zdiv_pos (by omega) (by omega) (by omega) (by omega)]
    rw [show (z.2.1 : Int) / ((10 ^ (cb (Lp t nr w.1 p 0) - 1) : Nat) : Int) = ((z.2.1 / 10 ^ (cb (Lp t nr w.1 p 0) - 1) : Nat) : Int) from rfl]
    obtain ⟨g2, f1, f2, f3⟩ := filMW (r := z.2.1 / 10 ^ (cb (Lp t nr w.1 p 0) - 1)) V O M1 hp (canF_w z2)
    rw [f1, zb_some]
    exact ⟨g2, rfl, FR_tr (FR_up e2 (by decide)) (FR_up f2 (by decide)), FS_tr e3 (FS_of f2 (by decide)), f3⟩
/-- all file by their best rows -/
def aToil (t : Nat → Nat) (nr : Nat) (a : hSt) : Nat → hSt
  | 0 => a
  | p + 1 => if idl t (aToil t nr a p) p = true then fS t nr (aToil t nr a p) p else aToil t nr a p
theorem aToil_OK {np nd nr : Nat} {t : Nat → Nat} {w : hW} (V : HV np nd nr t) (O : WOK np nd nr t w) {p : Nat} (hp : p ≤ np) : WOK np nd nr t (aToil t nr w.1 p, w.2) ∧ aT (aToil t nr w.1 p) = aT w.1 := by
  induction p with
  | zero => exact ⟨O, rfl⟩
  | succ p ih =>
    obtain ⟨i1, i2⟩ := ih (by omega)
    unfold aToil
    split
    · rename_i hc
      have := fS_OK V i1 (show p < np by omega) hc
      exact ⟨this.1, this.2.trans i2⟩
    · exact ⟨i1, i2⟩
def wToilN (np nd nr : Nat) (t : Nat → Nat) (gr : hGr) (w : hW) : Nat → hW
  | 0 => w
  | n + 1 => (aPass np nd t gr false (aToil t nr (wToilN np nd nr t gr w n).1 np), wKeep (wToilN np nd nr t gr w n).1 (wToilN np nd nr t gr w n).2)
theorem wToilN_OK {np nd nr : Nat} {t : Nat → Nat} {gr : hGr} {w : hW} (V : HV np nd nr t) (O : WOK np nd nr t w) (n : Nat) (hn : aT w.1 + n ≤ 9999) : WOK np nd nr t (wToilN np nd nr t gr w n) ∧ aT (wToilN np nd nr t gr w n).1 = aT w.1 + n := by
  induction n with
  | zero => exact ⟨O, rfl⟩
  | succ n ih =>
    obtain ⟨i1, i2⟩ := ih (by omega)
    obtain ⟨j1, j2⟩ := aToil_OK V (WOK_keep i1) (Nat.le_refl np)
    have j2' : aT (aToil t nr (wToilN np nd nr t gr w n).1 np) = aT (wToilN np nd nr t gr w n).1 := j2
    refine ⟨passWOK V j1 (by show aT (aToil t nr (wToilN np nd nr t gr w n).1 np) < 9999; omega), ?_⟩
    show aT (aPass np nd t gr false (aToil t nr (wToilN np nd nr t gr w n).1 np)) = _
    rw [aPass_T, j2', i2]
    omega
theorem toilX {np nd nr lim : Nat} {t : Nat → Nat} {w : hW} {h : zH} (V : HV np nd nr t) (O : WOK np nd nr t w) (H : CW np nd nr t lim w h) (hlim : lim < 900000000) (K : KM t nr h) {N : Nat} (hN : 300 ≤ N) {gr : hGr} (G : GX N 32 gr h) {x : Int} (hx : zw x = x) : (¬ wCan np 48 x w → fX10_toil N x h = some (-1, h)) ∧ (wCan np 48 x w → ∃ h', fX10_toil N x h = some ((aT (wToilN np nd nr t gr w x.toNat).1 : Int), h') ∧ FR [5, 10, 26, 30, 31, 32, 33, 42, 43] h h' ∧ FS 5 [5] h h' ∧ KM t nr h' ∧ CW np nd nr t (lim + 48) (wToilN np nd nr t gr w x.toNat) h') := by
  have v := V.1
  obtain ⟨c1, c2⟩ := canPX V O H hx (most := 48) (by decide)
  refine ⟨fun hc => ?_, fun hc => ?_⟩
  · unfold fX10_toil
    rw [c2 hc, zif0]
  · have hc' := hc
    obtain ⟨h0, h1, h2, h3⟩ := hc
    obtain ⟨n, rfl⟩ := Int.eq_ofNat_of_zero_le (show 0 ≤ x by omega)
    rw [Int.toNat_natCast]
    unfold fX10_toil
    rw [c1 hc', zif1]
    refine zloopq (F := fun k i (s : zH) => fX10_toil_c14 N k (n : Int) i s) (n := n) (s := h) (fun i s => FR [5, 10, 26, 30, 31, 32, 33, 42, 43] h s ∧ FS 5 [5] h s ∧ KM t nr s ∧ CW np nd nr t (lim + i) (wToilN np nd nr t gr w i) s) (fun b => ∃ h', b = some ((aT (wToilN np nd nr t gr w n).1 : Int), h') ∧ FR [5, 10, 26, 30, 31, 32, 33, 42, 43] h h' ∧ FS 5 [5] h h' ∧ KM t nr h' ∧ CW np nd nr t (lim + 48) (wToilN np nd nr t gr w n) h') (fun k i s hi hI => ?_) (fun k s hI => ?_) (by omega) ⟨FR_rf, FS_rf, K, H⟩
    · obtain ⟨i1, i2, iK, i3⟩ := hI
      obtain ⟨o1, o2⟩ := wToilN_OK (gr := gr) V O i (by omega)
      have Ok := WOK_keep o1
      obtain ⟨hk, e1, e2, e3⟩ := CW_keep V o1 i3 (by omega)
      have F5 : FS 5 [5] h hk := FS_tr i2 (FS_of e2 (by decide))
      have F : FR [5, 10, 26, 30, 31, 32, 33, 42, 43] h hk := FR_tr i1 (FR_up e2 (by decide))
      have Kk : KM t nr hk := fun l m hl hm => by rw [e2 43 (by decide)]; exact iK l m hl hm
      left
      have inner : ∃ h4, fX10_toil_c32 N (fX10_toil_c14 N k) N (n : Int) (i : Int) 0 hk = fX10_toil_c14 N k (n : Int) ((i + 1 : Nat) : Int) h4 ∧ FR [5, 10, 26, 30, 31, 32, 33, 42, 43] h h4 ∧ FS 5 [5] h h4 ∧ KM t nr h4 ∧ CW np nd nr t (lim + i + 1) (wToilN np nd nr t gr w (i + 1)) h4 := by
        refine zloopq (F := fun k' j (s : zH) => fX10_toil_c32 N (fX10_toil_c14 N k) k' (n : Int) (i : Int) j s) (n := np) (s := hk) (fun j s => FR [5, 10, 26, 30, 31, 32, 33, 42, 43] h s ∧ FS 5 [5] h s ∧ KM t nr s ∧ CW np nd nr t (lim + i + 1) (aToil t nr (wToilN np nd nr t gr w i).1 j, wKeep (wToilN np nd nr t gr w i).1 (wToilN np nd nr t gr w i).2) s) (fun b => ∃ h4, b = fX10_toil_c14 N k (n : Int) ((i + 1 : Nat) : Int) h4 ∧ FR [5, 10, 26, 30, 31, 32, 33, 42, 43] h h4 ∧ FS 5 [5] h h4 ∧ KM t nr h4 ∧ CW np nd nr t (lim + i + 1) (wToilN np nd nr t gr w (i + 1)) h4) (fun k' j s hj hJ => ?_) (fun k' s hJ => ?_) (by omega) ⟨F, F5, Kk, e3⟩
        · obtain ⟨j1, j2, jK, j3⟩ := hJ
          obtain ⟨p1, p2⟩ := aToil_OK V Ok (Nat.le_of_lt hj)
          left
          have e : fX10_toil_c32 N (fX10_toil_c14 N k) (k' + 1) (n : Int) (i : Int) (j : Int) s = if idl t (aToil t nr (wToilN np nd nr t gr w i).1 j) j = true then zb (fX10_fileSoonest N (j : Int) s) (fun h4 => fX10_toil_c32 N (fX10_toil_c14 N k) k' (n : Int) (i : Int) ((j + 1 : Nat) : Int) h4) else fX10_toil_c32 N (fX10_toil_c14 N k) k' (n : Int) (i : Int) ((j + 1 : Nat) : Int) s := by
            show fX10_toil_c32b N (fX10_toil_c14 N k) (fX10_toil_c32 N (fX10_toil_c14 N k) k') _ _ _ _ = _
            unfold fX10_toil_c32b
            rw [xm1 j3.1, zw_id (show -2147483648 ≤ (np : Int) ∧ (np : Int) < 2147483648 by omega), zw_id (show -2147483648 ≤ (j : Int) ∧ (j : Int) < 2147483648 by omega), if_neg (by omega), idlX V p1 j3 hj, zq]
            rfl
          have et : aToil t nr (wToilN np nd nr t gr w i).1 (j + 1) = if idl t (aToil t nr (wToilN np nd nr t gr w i).1 j) j = true then fS t nr (aToil t nr (wToilN np nd nr t gr w i).1 j) j else aToil t nr (wToilN np nd nr t gr w i).1 j := rfl
          rw [et]
          by_cases hid : idl t (aToil t nr (wToilN np nd nr t gr w i).1 j) j = true
          · rw [if_pos hid] at e ⊢
            obtain ⟨h5, f1, f2, f3, f4⟩ := fSX V p1 j3 jK (show 10 ≤ N by omega) hj hid
            rw [f1, zb_some] at e
            exact ⟨h5, e, FR_tr j1 (FR_up f2 (by decide)), FS_tr j2 (FS_of f2 (by decide)), f3, f4⟩
          · rw [if_neg hid] at e ⊢
            exact ⟨s, e, j1, j2, jK, j3⟩
        · obtain ⟨j1, j2, jK, j3⟩ := hJ
          obtain ⟨p1, p2⟩ := aToil_OK V Ok (Nat.le_refl np)
          have p2' : aT (aToil t nr (wToilN np nd nr t gr w i).1 np) = aT (wToilN np nd nr t gr w i).1 := p2
          obtain ⟨h5, f1, f2, f3, f4⟩ := passCW (dark := false) V p1 j3 (show 8 ≤ N by omega) (GX_F G j1 j2 (by decide) (by decide)) (by show aT (aToil t nr (wToilN np nd nr t gr w i).1 np) < 9999; omega) h0
          refine ⟨h5, ?_, FR_tr j1 (FR_up f2 (by decide)), FS_tr j2 f3, fun l m hl hm => by rw [f2 43 (by decide)]; exact jK l m hl hm, f4⟩
          show fX10_toil_c32b N (fX10_toil_c14 N k) (fX10_toil_c32 N (fX10_toil_c14 N k) k') _ _ _ _ = _
          unfold fX10_toil_c32b
          rw [xm1 j3.1, if_pos (by omega), show (0 : Int) = dkI false from rfl, f1, zb_some]
          rfl
      obtain ⟨h4, g1, g2, g3, g4, g5⟩ := inner
      refine ⟨h4, ?_, g2, g3, g4, g5⟩
      show fX10_toil_c14b N (fX10_toil_c14 N k) _ _ _ = _
      unfold fX10_toil_c14b
      rw [zw_id (show -2147483648 ≤ (n : Int) ∧ (n : Int) < 2147483648 by omega), zw_id (show -2147483648 ≤ (i : Int) ∧ (i : Int) < 2147483648 by omega), if_neg (by omega), e1, zb_some]
      exact g1
    · obtain ⟨i1, i2, iK, i3⟩ := hI
      refine ⟨s, ?_, i1, i2, iK, CW_to i3 (by omega) rfl rfl rfl rfl rfl rfl rfl⟩
      show fX10_toil_c14b N (fX10_toil_c14 N k) _ _ _ = _
      unfold fX10_toil_c14b
      rw [if_pos (by omega), show fX8_hour 7 s = (aT (wToilN np nd nr t gr w n).1 : Int) from i3.2.1.2.1]
theorem toilM {np nd nr B : Nat} {t : Nat → Nat} {w : hW} {g : zH} (V : HV np nd nr t) (O : WOK np nd nr t w) (H : MW np nd nr t B w g) (hB : B < 900000000) {N : Nat} (hN : 6600 ≤ N) {gr : hGr} (G : GM N gr g) {x : Int} (hx : zw x = x) : (¬ wCan np 48 x w → fX11_toil N x g = some (-1, g)) ∧ (wCan np 48 x w → ∃ g', fX11_toil N x g = some ((aT (wToilN np nd nr t gr w x.toNat).1 : Int), g') ∧ FR [14, 57, 58, 69, 70] g g' ∧ FS 14 [38, 40, 41, 42] g g' ∧ MW np nd nr t (B + 288) (wToilN np nd nr t gr w x.toNat) g') := by
  have v := V.1
  obtain ⟨c1, c2⟩ := areHM V O H hx (most := 48) (by decide)
  refine ⟨fun hc => ?_, fun hc => ?_⟩
  · unfold fX11_toil
    rw [c2 hc, zif0]
  · have hc' := hc
    obtain ⟨h0, h1, h2, h3⟩ := hc
    obtain ⟨n, rfl⟩ := Int.eq_ofNat_of_zero_le (show 0 ≤ x by omega)
    rw [Int.toNat_natCast]
    unfold fX11_toil
    rw [c1 hc', zif1]
    refine zloopq (F := fun k i (s : zH) => fX11_toil_c14 N k (n : Int) i s) (n := n) (s := g) (fun i s => FR [14, 57, 58, 69, 70] g s ∧ FS 14 [38, 40, 41, 42] g s ∧ MW np nd nr t (B + 6 * i) (wToilN np nd nr t gr w i) s) (fun b => ∃ g', b = some ((aT (wToilN np nd nr t gr w n).1 : Int), g') ∧ FR [14, 57, 58, 69, 70] g g' ∧ FS 14 [38, 40, 41, 42] g g' ∧ MW np nd nr t (B + 288) (wToilN np nd nr t gr w n) g') (fun k i s hi hI => ?_) (fun k s hI => ?_) (by omega) ⟨FR_rf, FS_rf, H⟩
    · obtain ⟨i1, i2, i3⟩ := hI
      obtain ⟨o1, o2⟩ := wToilN_OK (gr := gr) V O i (by omega)
      have Ok := WOK_keep o1
      obtain ⟨hk, e1, e2, e2', e3⟩ := MW_keep V o1 i3 hN
      have F5 : FS 14 [38, 40, 41, 42] g hk := FS_tr i2 (fun j hj => e2' j (fun e => hj (by rw [List.mem_singleton.mp e]; decide)))
      have F : FR [14, 57, 58, 69, 70] g hk := FR_tr i1 (FR_up e2 (by decide))
      left
      have inner : ∃ h4, fX11_toil_c25 N (fX11_toil_c14 N k) N (n : Int) (i : Int) 0 hk = fX11_toil_c14 N k (n : Int) ((i + 1 : Nat) : Int) h4 ∧ FR [14, 57, 58, 69, 70] g h4 ∧ FS 14 [38, 40, 41, 42] g h4 ∧ MW np nd nr t (B + 6 * i + 6) (wToilN np nd nr t gr w (i + 1)) h4 := by
        refine zloopq (F := fun k' j (s : zH) => fX11_toil_c25 N (fX11_toil_c14 N k) k' (n : Int) (i : Int) j s) (n := np) (s := hk) (fun j s => FR [14, 57, 58, 69, 70] g s ∧ FS 14 [38, 40, 41, 42] g s ∧ MW np nd nr t (B + 6 * i + j) (aToil t nr (wToilN np nd nr t gr w i).1 j, wKeep (wToilN np nd nr t gr w i).1 (wToilN np nd nr t gr w i).2) s) (fun b => ∃ h4, b = fX11_toil_c14 N k (n : Int) ((i + 1 : Nat) : Int) h4 ∧ FR [14, 57, 58, 69, 70] g h4 ∧ FS 14 [38, 40, 41, 42] g h4 ∧ MW np nd nr t (B + 6 * i + 6) (wToilN np nd nr t gr w (i + 1)) h4) (fun k' j s hj hJ => ?_) (fun k' s hJ => ?_) (by omega) ⟨F, F5, e3⟩
        · obtain ⟨j1, j2, j3⟩ := hJ
          obtain ⟨p1, p2⟩ := aToil_OK V Ok (Nat.le_of_lt hj)
          left
          have e : fX11_toil_c25 N (fX11_toil_c14 N k) (k' + 1) (n : Int) (i : Int) (j : Int) s = if idl t (aToil t nr (wToilN np nd nr t gr w i).1 j) j = true then zb (fX11_fileSoonest N (j : Int) s) (fun h4 => fX11_toil_c25 N (fX11_toil_c14 N k) k' (n : Int) (i : Int) ((j + 1 : Nat) : Int) h4) else fX11_toil_c25 N (fX11_toil_c14 N k) k' (n : Int) (i : Int) ((j + 1 : Nat) : Int) s := by
            show fX11_toil_c25b N (fX11_toil_c14 N k) (fX11_toil_c25 N (fX11_toil_c14 N k) k') _ _ _ _ = _
            unfold fX11_toil_c25b
            rw [j3.1.1.1, zw_id (show -2147483648 ≤ (np : Int) ∧ (np : Int) < 2147483648 by omega), zw_id (show -2147483648 ≤ (j : Int) ∧ (j : Int) < 2147483648 by omega), if_neg (by omega), idlM V p1 j3 hj, zb_some, zq]
            rfl
          have et : aToil t nr (wToilN np nd nr t gr w i).1 (j + 1) = if idl t (aToil t nr (wToilN np nd nr t gr w i).1 j) j = true then fS t nr (aToil t nr (wToilN np nd nr t gr w i).1 j) j else aToil t nr (wToilN np nd nr t gr w i).1 j := rfl
          rw [et]
          by_cases hid : idl t (aToil t nr (wToilN np nd nr t gr w i).1 j) j = true
          · rw [if_pos hid] at e ⊢
            obtain ⟨h5, f1, f2, f3, f4⟩ := fSM V p1 j3 (show 1100 ≤ N by omega) hj hid
            rw [f1, zb_some] at e
            exact ⟨h5, e, FR_tr j1 (FR_up f2 (by decide)), FS_tr j2 (fun q hq => f3 q (fun e => hq (by simp at e ⊢; omega))), f4⟩
          · rw [if_neg hid] at e ⊢
            exact ⟨s, e, j1, j2, MW_B j3 (by omega)⟩
        · obtain ⟨j1, j2, j3⟩ := hJ
          obtain ⟨p1, p2⟩ := aToil_OK V Ok (Nat.le_refl np)
          have p2' : aT (aToil t nr (wToilN np nd nr t gr w i).1 np) = aT (wToilN np nd nr t gr w i).1 := p2
          obtain ⟨h5, f1, f2, f4⟩ := passMW (dark := false) V p1 j3 (by omega) (show 200 ≤ N by omega) (GM_F G j1 (j2 35 (by decide)) (by intro b b1 b2 hb; simp at hb; omega)) (by show aT (aToil t nr (wToilN np nd nr t gr w i).1 np) < 9999; omega) h0
          refine ⟨h5, ?_, FR_tr j1 (FR_up f2 (by decide)), FS_tr j2 (FS_of f2 (by decide)), MW_B f4 (by omega)⟩
          show fX11_toil_c25b N (fX11_toil_c14 N k) (fX11_toil_c25 N (fX11_toil_c14 N k) k') _ _ _ _ = _
          unfold fX11_toil_c25b
          rw [j3.1.1.1, if_pos (by omega), show (0 : Int) = dkI false from rfl, f1, zb_some]
          rfl
      obtain ⟨h4, g1, g2, g3, g5⟩ := inner
      refine ⟨h4, ?_, g2, g3, by rw [show B + 6 * (i + 1) = B + 6 * i + 6 by omega]; exact g5⟩
      show fX11_toil_c14b N (fX11_toil_c14 N k) _ _ _ = _
      unfold fX11_toil_c14b
      rw [zw_id (show -2147483648 ≤ (n : Int) ∧ (n : Int) < 2147483648 by omega), zw_id (show -2147483648 ≤ (i : Int) ∧ (i : Int) < 2147483648 by omega), if_neg (by omega), e1, zb_some]
      exact g1
    · obtain ⟨i1, i2, i3⟩ := hI
      refine ⟨s, ?_, i1, i2, MW_B i3 (by omega)⟩
      show fX11_toil_c14b N (fX11_toil_c14 N k) _ _ _ = _
      unfold fX11_toil_c14b
      rw [if_pos (by omega), i3.2.1.2.1]
