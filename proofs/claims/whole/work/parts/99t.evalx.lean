/-! the class works a rule out -/
def sgm (r : Nat → Int) (B : Nat) (X : List Int) : Prop := ∀ j, j < X.length → r (B + j) = X.getD j 0
theorem getD_l {X Y : List Int} {j : Nat} (h : j < X.length) : (X ++ Y).getD j 0 = X.getD j 0 := by
  rw [List.getD_eq_getElem?_getD, List.getD_eq_getElem?_getD, List.getElem?_append_left h]
theorem getD_r {X Y : List Int} {j : Nat} : (X ++ Y).getD (X.length + j) 0 = Y.getD j 0 := by
  rw [List.getD_eq_getElem?_getD, List.getD_eq_getElem?_getD, List.getElem?_append_right (by omega), Nat.add_sub_cancel_left]
theorem sgm_l {r : Nat → Int} {B : Nat} {X Y : List Int} (h : sgm r B (X ++ Y)) : sgm r B X := fun j hj => by
  rw [h j (by rw [List.length_append]; omega), getD_l hj]
theorem sgm_r {r : Nat → Int} {B : Nat} {X Y : List Int} (h : sgm r B (X ++ Y)) : sgm r (B + X.length) Y := fun j hj => by
  have := h (X.length + j) (by rw [List.length_append]; omega)
  rw [getD_r] at this
  rw [Nat.add_assoc]; exact this
theorem sgm_1 {r : Nat → Int} {B : Nat} {v : Int} (h : sgm r B [v]) : r B = v := h 0 Nat.one_pos
theorem sgm_mk {r : Nat → Int} {B : Nat} {X Y : List Int} (h1 : sgm r B X) (h2 : sgm r (B + X.length) Y) : sgm r B (X ++ Y) := fun j hj => by
  by_cases c : j < X.length
  · rw [getD_l c]; exact h1 j c
  · rw [List.length_append] at hj
    have := h2 (j - X.length) (by omega)
    rw [show B + X.length + (j - X.length) = B + j by omega] at this
    rw [this, show (X ++ Y).getD j 0 = (X ++ Y).getD (X.length + (j - X.length)) 0 by rw [show X.length + (j - X.length) = j by omega], getD_r]
theorem sgm_to {r r' : Nat → Int} {B : Nat} {X : List Int} (h : sgm r B X) (e : ∀ j, j < X.length → r' (B + j) = r (B + j)) : sgm r' B X := fun j hj => (e j hj).trans (h j hj)
def LB (L : Nat → Int) : Prop := ∀ j, j < 7 → 0 ≤ L j ∧ L j < 1000
def VX (lr ρ sz : Nat) (L : Nat → Int) (h : zH) : Prop := h 5 1 = (ρ : Int) ∧ h 25 ρ = (sz : Int) ∧ ∀ j, j < 7 → h lr j = L j
def SX (st : List Int) (h : zH) : Prop := h 5 5 = (st.length : Int) ∧ sgm (h 26) 0 st
theorem VX_to {lr ρ sz : Nat} {L : Nat → Int} {h h' : zH} (H : VX lr ρ sz L h) (hl : lr ≠ 5 ∧ lr ≠ 26) (F : FR [5, 26] h h') (G : FS 5 [5] h h') : VX lr ρ sz L h' := by
  refine ⟨by rw [G 1 (by decide)]; exact H.1, by rw [F 25 (by decide)]; exact H.2.1, fun j hj => ?_⟩
  rw [F lr (fun e => by rcases List.mem_cons.mp e with e | e; exact hl.1 e; exact hl.2 (List.mem_singleton.mp e))]
  exact H.2.2 j hj
theorem SX_push {st : List Int} {h : zH} (H : SX st h) (hl : st.length < 48) (v : Int) : ∃ h', (zlet (fX10_put 26 (h 5 5) v h) fun h11 => zlet (zs h11 5 5 ((h11 5 5) + 1)) fun h12 => some h12) = some h' ∧ FR [5, 26] h h' ∧ FS 5 [5] h h' ∧ SX (st ++ [v]) h' := by
  have l26 : zln 26 = 48 := rfl
  refine ⟨zs (zs h 26 st.length v) 5 5 ((st.length : Int) + 1), ?_, fun b hb => ?_, fun q hq => ?_, ?_, ?_⟩
  · rw [H.1, put_in (by omega) (by omega), Int.toNat_natCast, zlet_v, zlet_v]
    have : zs h 26 st.length v 5 5 = (st.length : Int) := by rw [zs_row_ne (by decide)]; exact H.1
    rw [this]
  · rw [zs_row_ne (fun e => hb (by rw [e]; decide)), zs_row_ne (fun e => hb (by rw [e]; decide))]
  · rw [zs_ne (fun e => hq (by rw [e]; decide)), zs_row_ne (by decide)]
  · rw [zs_at, List.length_append]; simp
  · rw [zs_row_ne (by decide)]
    refine sgm_mk (fun j hj => ?_) (fun j hj => ?_)
    · rw [Nat.zero_add, zs_ne (by omega)]
      have := H.2 j hj
      rw [Nat.zero_add] at this
      exact this
    · have : j = 0 := by simp at hj; omega
      subst this
      rw [Nat.zero_add, Nat.add_zero, zs_at]
      rfl
theorem SX_last {st : List Int} {v : Int} {h : zH} (H : SX (st ++ [v]) h) : h 5 5 = (st.length : Int) + 1 ∧ h 26 st.length = v ∧ sgm (h 26) 0 st := by
  refine ⟨?_, ?_, sgm_l H.2⟩
  · rw [H.1, List.length_append]; simp
  · have := sgm_1 (sgm_r H.2)
    rw [Nat.zero_add] at this
    exact this
theorem SX_set {st : List Int} {v w : Int} {h : zH} (H : SX (st ++ [v]) h) : SX (st ++ [w]) (zs h 26 st.length w) := by
  obtain ⟨h1, h2, h3⟩ := SX_last H
  refine ⟨by rw [zs_row_ne (by decide), h1, List.length_append]; simp, sgm_mk (fun j hj => ?_) (fun j hj => ?_)⟩
  · rw [Nat.zero_add, zs_ne (by omega)]
    have := h3 j hj
    rw [Nat.zero_add] at this
    exact this
  · have : j = 0 := by simp at hj; omega
    subst this
    rw [Nat.zero_add, Nat.add_zero, zs_at]
    rfl
theorem SX_pop {st : List Int} {v : Int} {h : zH} (H : SX (st ++ [v]) h) : SX st (zs h 5 5 (st.length : Int)) := by
  obtain ⟨h1, h2, h3⟩ := SX_last H
  exact ⟨by rw [zs_at], by rw [zs_row_ne (by decide)]; exact h3⟩
/-- one part of the code that is worked out -/
theorem wStep {N lr k ρ sz i : Nat} {L : Nat → Int} {h : zH} {part : Int} (hρ : ρ < 4) (hsz : sz ≤ 240) (V : VX lr ρ sz L h) (hi : i < sz) (hp : h 24 (240 * ρ + i) = part) (h59 : ¬ zw part = zw (-59)) (h63 : ¬ zw part = zw (-63)) : fX5_worth_c9 N lr (k + 1) 0 (i : Int) h = zb (fX5_compute lr part h) fun h8 => fX5_worth_c9 N lr k 0 ((i + 1 : Nat) : Int) h8 := by
  have l24 : zln 24 = 960 := rfl
  have l25 : zln 25 = 4 := rfl
  show fX5_worth_c9b N lr (fX5_worth_c9 N lr k) 0 (i : Int) h = _
  unfold fX5_worth_c9b
  rw [V.1, at_in (by omega) (by omega), Int.toNat_natCast, V.2.1, zw_id (show -2147483648 ≤ (sz : Int) ∧ (sz : Int) < 2147483648 by omega), zw_id (show -2147483648 ≤ (i : Int) ∧ (i : Int) < 2147483648 by omega), if_neg (by omega), show ((ρ : Int) * 240) + (i : Int) = ((240 * ρ + i : Nat) : Int) by omega, at_in (by omega) (by omega), Int.toNat_natCast, hp, zlet_v, if_pos zw_0, if_neg h59, if_neg h63]
  rfl
def EX (lr : Nat) (e : zE) : Prop := ∀ (N k ρ sz i : Nat) (L : Nat → Int) (st : List Int) (h : zH), LB L → ρ < 4 → sz ≤ 240 → VX lr ρ sz L h → SX st h → st.length + eN e ≤ 48 → i + (eX e).length ≤ sz → sgm (h 24) (240 * ρ + i) (eX e) → ∃ h', fX5_worth_c9 N lr (k + (eX e).length) 0 (i : Int) h = fX5_worth_c9 N lr k 0 ((i + (eX e).length : Nat) : Int) h' ∧ FR [5, 26] h h' ∧ FS 5 [5] h h' ∧ SX (st ++ [eV e L]) h'
theorem EX_num {lr : Nat} {v : Int} (hv : 0 ≤ v ∧ v ≤ 9999) : EX lr (eNum v) := by
  intro N k ρ sz i L st h hL hρ hsz V S hn hi G
  have hn : st.length + 1 ≤ 48 := hn
  have hi : i + 1 ≤ sz := hi
  have hp : h 24 (240 * ρ + i) = v := sgm_1 G
  have wv : zw v = v := zw_id (by omega)
  obtain ⟨h', e1, e2, e3, e4⟩ := SX_push S (by omega) v
  refine ⟨h', ?_, e2, e3, e4⟩
  show fX5_worth_c9 N lr (k + 1) 0 (i : Int) h = fX5_worth_c9 N lr k 0 ((i + 1 : Nat) : Int) h'
  rw [wStep hρ hsz V (by omega) hp (by rw [wv, show zw (-59) = -59 by decide]; omega) (by rw [wv, show zw (-63) = -63 by decide]; omega)]
  have : fX5_compute lr v h = some h' := by
    unfold fX5_compute
    rw [wv, show zw 10000 = 10000 by decide, if_pos (by omega), if_neg (by omega)]
    exact e1
  rw [this, zb_some]
theorem EX_let {lr : Nat} (hlr : zln lr = 7) {k : Nat} (hk : k < 7) : EX lr (eLet k) := by
  intro N k' ρ sz i L st h hL hρ hsz V S hn hi G
  have hn : st.length + 1 ≤ 48 := hn
  have hi : i + 1 ≤ sz := hi
  have hp : h 24 (240 * ρ + i) = 10000 + (k : Int) := sgm_1 G
  have wv : zw (10000 + (k : Int)) = 10000 + (k : Int) := zw_id (by omega)
  obtain ⟨h', e1, e2, e3, e4⟩ := SX_push S (by omega) (L k)
  refine ⟨h', ?_, e2, e3, e4⟩
  show fX5_worth_c9 N lr (k' + 1) 0 (i : Int) h = fX5_worth_c9 N lr k' 0 ((i + 1 : Nat) : Int) h'
  rw [wStep hρ hsz V (by omega) hp (by rw [wv, show zw (-59) = -59 by decide]; omega) (by rw [wv, show zw (-63) = -63 by decide]; omega)]
  have : fX5_compute lr (10000 + (k : Int)) h = some h' := by
    unfold fX5_compute
    rw [wv, show zw 10000 = 10000 by decide, if_neg (by omega), show 10000 + (k : Int) - 10000 = (k : Int) by omega, at_in (by omega) (by omega), Int.toNat_natCast, V.2.2 k hk]
    exact e1
  rw [this, zb_some]
theorem EX_not {lr : Nat} (hlr : lr ≠ 5 ∧ lr ≠ 26) {a : zE} (A : EX lr a) (h1a : 1 ≤ eN a) (hb : ∀ L, LB L → eV a L = 0 ∨ eV a L = 1) : EX lr (eNot a) := by
  intro N k ρ sz i L st h hL hρ hsz V S hn hi G
  have l26 : zln 26 = 48 := rfl
  have hlen : (eX (eNot a)).length = (eX a).length + 1 := by
    show (eX a ++ [-33]).length = _
    rw [List.length_append]; rfl
  rw [hlen] at hi ⊢
  have hn : st.length + eN a ≤ 48 := hn
  have G : sgm (h 24) (240 * ρ + i) (eX a ++ [-33]) := G
  obtain ⟨h1, a1, a2, a3, a4⟩ := A N (k + 1) ρ sz i L st h hL hρ hsz V S hn (by omega) (sgm_l G)
  have hp : h1 24 (240 * ρ + (i + (eX a).length)) = -33 := by
    rw [a2 24 (by decide), ← Nat.add_assoc]; exact sgm_1 (sgm_r G)
  have V1 := VX_to V hlr a2 a3
  obtain ⟨s1, s2, s3⟩ := SX_last a4
  refine ⟨zs h1 26 st.length (1 - eV a L), ?_, FR_tr a2 (fun b hb => zs_row_ne (fun e => hb (by rw [e]; decide))), FS_tr a3 (fun q hq => by rw [zs_row_ne (by decide)]), SX_set a4⟩
  rw [show k + ((eX a).length + 1) = k + 1 + (eX a).length by omega, a1, wStep hρ hsz V1 (by omega) hp (by decide) (by decide)]
  have : fX5_compute lr (-33) h1 = some (zs h1 26 st.length (1 - eV a L)) := by
    unfold fX5_compute
    rw [if_pos (show zw (-33) < zw 10000 by decide), if_pos (show zw (-33) < 0 by decide), if_pos rfl, s1, show (st.length : Int) + 1 - 1 = (st.length : Int) by omega, at_in (by omega) (by omega), Int.toNat_natCast, s2, put_in (by omega) (by omega), put_in (by omega) (by omega), Int.toNat_natCast, zlet_v, zlet_v]
    rcases hb L hL with e | e
    · rw [e, if_pos zw_0]; rfl
    · rw [e, if_neg (by decide)]; rfl
  rw [this, zb_some, show i + ((eX a).length + 1) = i + (eX a).length + 1 by omega]
theorem EX_bin {lr : Nat} (hlr : lr ≠ 5 ∧ lr ≠ 26) {s m : Int} (hs : opOK s m) {a c : zE} (A : EX lr a) (B : EX lr c) (h1a : 1 ≤ eN a) (h1c : 1 ≤ eN c) (hv : ∀ L, LB L → opV m (eV a L) (eV c L)) : EX lr (eBin s m a c) := by
  intro N k ρ sz i L st h hL hρ hsz V S hn hi G
  have l26 : zln 26 = 48 := rfl
  have hlen : (eX (eBin s m a c)).length = (eX a).length + ((eX c).length + 1) := by
    show (eX a ++ (eX c ++ [-s])).length = _
    rw [List.length_append, List.length_append]; rfl
  rw [hlen] at hi ⊢
  have hn : st.length + max (eN a) (eN c + 1) ≤ 48 := hn
  have G : sgm (h 24) (240 * ρ + i) (eX a ++ (eX c ++ [-s])) := G
  obtain ⟨h1, a1, a2, a3, a4⟩ := A N (k + 1 + (eX c).length) ρ sz i L st h hL hρ hsz V S (by omega) (by omega) (sgm_l G)
  have V1 := VX_to V hlr a2 a3
  have G1 : sgm (h1 24) (240 * ρ + (i + (eX a).length)) (eX c ++ [-s]) := by
    rw [a2 24 (by decide), ← Nat.add_assoc]; exact sgm_r G
  obtain ⟨h2, b1, b2, b3, b4⟩ := B N (k + 1) ρ sz (i + (eX a).length) L (st ++ [eV a L]) h1 hL hρ hsz V1 a4 (by rw [List.length_append]; show st.length + 1 + eN c ≤ 48; omega) (by omega) (sgm_l G1)
  have V2 := VX_to V1 hlr b2 b3
  have hp : h2 24 (240 * ρ + (i + (eX a).length + (eX c).length)) = -s := by
    rw [b2 24 (by decide), ← Nat.add_assoc]; exact sgm_1 (sgm_r G1)
  obtain ⟨t1, t2, t3⟩ := SX_last b4
  have S3 := SX_pop b4
  have hl3 : (st ++ [eV a L]).length = st.length + 1 := by rw [List.length_append]; rfl
  rw [hl3] at t1 t2 S3
  obtain ⟨h3, e3⟩ : ∃ h3, h3 = zs h2 5 5 ((st.length + 1 : Nat) : Int) := ⟨_, rfl⟩
  rw [← e3] at S3
  obtain ⟨u1, u2, u3⟩ := SX_last S3
  have t2' : h3 26 (st.length + 1) = eV c L := by rw [e3, zs_row_ne (by decide)]; exact t2
  obtain ⟨v, j1, j2⟩ := joinX hs (hv L hL)
  refine ⟨zs h3 26 st.length (vop m (eV a L) (eV c L)), ?_, ?_, ?_, SX_set S3⟩
  · have sgn : zw (-s) < 0 ∧ ¬ zw (-s) = zw (-33) ∧ ¬ zw (-s) = zw (-59) ∧ ¬ zw (-s) = zw (-63) ∧ - -s = s := by
      rcases hs with h | h | h | h | h | h | h | h | h <;> (obtain ⟨rfl, _⟩ := h) <;> decide
    rw [show k + ((eX a).length + ((eX c).length + 1)) = k + 1 + (eX c).length + (eX a).length by omega, a1, b1, wStep hρ hsz V2 (by omega) hp sgn.2.2.1 sgn.2.2.2.1]
    have : fX5_compute lr (-s) h2 = some (zs h3 26 st.length (vop m (eV a L) (eV c L))) := by
      unfold fX5_compute
      have w1 := sgn.1
      rw [if_pos (show zw (-s) < zw 10000 by rw [show zw 10000 = 10000 by decide]; omega), if_pos w1, if_neg sgn.2.1, t1, show ((st.length + 1 : Nat) : Int) + 1 - 1 = ((st.length + 1 : Nat) : Int) by omega, ← e3, zlet_v, u1, show (st.length : Int) + 1 - 1 = (st.length : Int) by omega, at_in (by omega) (by omega), Int.toNat_natCast, u2, show (st.length : Int) + 1 = ((st.length + 1 : Nat) : Int) by omega, at_in (by omega) (by omega), Int.toNat_natCast, t2', sgn.2.2.2.2, j1, zb_some, zlet_v, j2, put_in (by omega) (by omega), Int.toNat_natCast, zlet_v]
    rw [this, zb_some, show i + ((eX a).length + ((eX c).length + 1)) = i + (eX a).length + (eX c).length + 1 by omega]
  · refine FR_tr a2 (FR_tr b2 (fun b hb => ?_))
    rw [zs_row_ne (fun e => hb (by rw [e]; decide)), e3, zs_row_ne (fun e => hb (by rw [e]; decide))]
  · refine FS_tr a3 (FS_tr b3 (fun q hq => ?_))
    rw [zs_row_ne (by decide), e3, zs_ne (fun e => hq (by rw [e]; decide))]
