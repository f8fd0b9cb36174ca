/-! see, could, sure, wrong -/
def NX (n : Nat) (sP sH : Nat → Nat) (h : zH) : Prop := h 13 0 = (n : Int) ∧ ∀ i, i < n → h 46 i = (sP i : Int) ∧ h 47 i = (sH i : Int)
def NMo (n : Nat) (sP sH : Nat → Nat) (g : zH) : Prop := g 14 46 = (n : Int) ∧ ∀ i, i < n → g 73 i = (sP i : Int) ∧ g 74 i = (sH i : Int)
def NV (np n : Nat) (sP sH : Nat → Nat) : Prop := n ≤ 12 ∧ ∀ i, i < n → sP i < np ∧ sH i ≤ 24
theorem NX_to {n : Nat} {sP sH : Nat → Nat} {h h' : zH} (H : NX n sP sH h) (e0 : h' 13 0 = h 13 0) (e1 : h' 46 = h 46) (e2 : h' 47 = h 47) : NX n sP sH h' := by
  unfold NX at *; rw [e0, e1, e2]; exact H
theorem NM_to {n : Nat} {sP sH : Nat → Nat} {h h' : zH} (H : NMo n sP sH h) (e0 : h' 14 46 = h 14 46) (e1 : h' 73 = h 73) (e2 : h' 74 = h 74) : NMo n sP sH h' := by
  unfold NMo at *; rw [e0, e1, e2]; exact H
theorem seeX {np nd nr n : Nat} {t sP sH : Nat → Nat} {h : zH} (V : HV np nd nr t) (X : HX np nd nr t h) (Nv : NV np n sP sH) (H : NX n sP sH h) {x y : Int} (hx : zw x = x) (hy : zw y = y) : (¬ ((0 ≤ x ∧ x < np) ∧ (0 ≤ y ∧ y ≤ 24) ∧ n < 12) → fX10_see x y h = (-1, h)) ∧ ((0 ≤ x ∧ x < np) ∧ (0 ≤ y ∧ y ≤ 24) ∧ n < 12 → ∃ h', fX10_see x y h = (((n + 1 : Nat) : Int), h') ∧ FR [13, 46, 47] h h' ∧ NX (n + 1) (fun i => if i = n then x.toNat else sP i) (fun i => if i = n then y.toNat else sH i) h') := by
  have v := V.1
  have n12 := Nv.1
  unfold fX10_see
  rw [xh1 V X hx, zq, hy, show zw 24 = 24 by decide]
  by_cases h1 : 0 ≤ x ∧ x < np
  · rw [if_pos h1]
    by_cases h2 : 0 ≤ y ∧ y ≤ 24
    · rw [if_neg (by omega), if_pos h2.2]
      unfold fX7_add
      rw [H.1, zw_id (show -2147483648 ≤ (n : Int) ∧ (n : Int) < 2147483648 by omega), show zw 12 = 12 by decide]
      by_cases h3 : n < 12
      · refine ⟨fun hc => absurd ⟨h1, h2, h3⟩ hc, fun _ => ?_⟩
        obtain ⟨p, rfl⟩ := Int.eq_ofNat_of_zero_le h1.1
        obtain ⟨q, rfl⟩ := Int.eq_ofNat_of_zero_le h2.1
        rw [if_pos (by omega), put_in (by omega) (by show _ < ((12 : Nat) : Int); omega), Int.toNat_natCast]
        simp only [zlet_v]
        have e1 : zs h 46 n (p : Int) 13 0 = (n : Int) := by rw [zs_row_ne (by decide), H.1]
        rw [e1, put_in (by omega) (by show _ < ((12 : Nat) : Int); omega), Int.toNat_natCast]
        have e2 : zs (zs h 46 n (p : Int)) 47 n (q : Int) 13 0 = (n : Int) := by rw [zs_row_ne (by decide), e1]
        rw [e2, zlet2_v, zs_at, Int.toNat_natCast]
        refine ⟨_, rfl, fun b hb => ?_, zs_at, fun i hi => ?_⟩
        · rw [zs_row_ne (fun e => hb (by rw [e]; decide)), zs_row_ne (fun e => hb (by rw [e]; decide)), zs_row_ne (fun e => hb (by rw [e]; decide))]
        · have f1 : ∀ v : Int, zs (zs (zs h 46 n (p : Int)) 47 n (q : Int)) 13 0 v 46 i = if i = n then (p : Int) else h 46 i := fun v => by
            rw [zs_row_ne (show 46 ≠ 13 by decide), zs_row_ne (show 46 ≠ 47 by decide), zs_row]
          have f2 : ∀ v : Int, zs (zs (zs h 46 n (p : Int)) 47 n (q : Int)) 13 0 v 47 i = if i = n then (q : Int) else h 47 i := fun v => by
            rw [zs_row_ne (show 47 ≠ 13 by decide), zs_row, zs_row_ne (show 47 ≠ 46 by decide)]
          rw [f1, f2]
          dsimp only
          by_cases hin : i = n
          · rw [if_pos hin, if_pos hin, if_pos hin, if_pos hin]
            exact ⟨rfl, rfl⟩
          · rw [if_neg hin, if_neg hin, if_neg hin, if_neg hin]
            exact H.2 i (by omega)
      · refine ⟨fun _ => ?_, fun hc => absurd hc.2.2 h3⟩
        rw [if_neg (by omega)]
        rfl
    · refine ⟨fun _ => ?_, fun hc => absurd hc.2.1 h2⟩
      by_cases h3 : y < 0
      · rw [if_pos h3]
      · rw [if_neg h3, if_neg (by omega)]
  · rw [if_neg h1]
    exact ⟨fun _ => rfl, fun hc => absurd hc.1 h1⟩
theorem seeM {np nd nr n : Nat} {t sP sH : Nat → Nat} {g : zH} (V : HV np nd nr t) (M : HM np nd nr t g) (Nv : NV np n sP sH) (H : NMo n sP sH g) {x y : Int} (hx : zw x = x) (hy : zw y = y) : (¬ ((0 ≤ x ∧ x < np) ∧ (0 ≤ y ∧ y ≤ 24) ∧ n < 12) → fX11_see x y g = some (-1, g)) ∧ ((0 ≤ x ∧ x < np) ∧ (0 ≤ y ∧ y ≤ 24) ∧ n < 12 → ∃ g', fX11_see x y g = some (((n + 1 : Nat) : Int), g') ∧ FR [14, 73, 74] g g' ∧ FS 14 [46] g g' ∧ NMo (n + 1) (fun i => if i = n then x.toNat else sP i) (fun i => if i = n then y.toNat else sH i) g') := by
  have v := V.1
  have n12 := Nv.1
  unfold fX11_see
  rw [mpar V M hx, in_eq hy zw_0 (show zw 24 = 24 by decide), zq, zq, H.1, zw_id (show -2147483648 ≤ (n : Int) ∧ (n : Int) < 2147483648 by omega), show zw 12 = 12 by decide]
  by_cases h1 : 0 ≤ x ∧ x < np
  · rw [if_pos h1]
    by_cases h2 : 0 ≤ y ∧ y ≤ 24
    · rw [if_pos h2]
      by_cases h3 : n < 12
      · refine ⟨fun hc => absurd ⟨h1, h2, h3⟩ hc, fun _ => ?_⟩
        obtain ⟨p, rfl⟩ := Int.eq_ofNat_of_zero_le h1.1
        obtain ⟨q, rfl⟩ := Int.eq_ofNat_of_zero_le h2.1
        rw [if_neg (by omega), if_pos (by omega), Int.toNat_natCast]
        simp only [zlet_v]
        have e1 : zs g 73 n (p : Int) 14 46 = (n : Int) := by rw [zs_row_ne (by decide), H.1]
        rw [e1, zw_id (show -2147483648 ≤ (n : Int) ∧ (n : Int) < 2147483648 by omega), if_pos (by omega), Int.toNat_natCast]
        have e2 : zs (zs g 73 n (p : Int)) 74 n (q : Int) 14 46 = (n : Int) := by rw [zs_row_ne (by decide), e1]
        rw [e2, zs_at, Int.toNat_natCast, Int.toNat_natCast]
        refine ⟨_, rfl, fun b hb => ?_, fun j hj => ?_, zs_at, fun i hi => ?_⟩
        · rw [zs_row_ne (fun e => hb (by rw [e]; decide)), zs_row_ne (fun e => hb (by rw [e]; decide)), zs_row_ne (fun e => hb (by rw [e]; decide))]
        · rw [zs_ne (fun e => hj (by rw [e]; decide)), zs_row_ne (by decide), zs_row_ne (by decide)]
        · have f1 : ∀ v : Int, zs (zs (zs g 73 n (p : Int)) 74 n (q : Int)) 14 46 v 73 i = if i = n then (p : Int) else g 73 i := fun v => by
            rw [zs_row_ne (show 73 ≠ 14 by decide), zs_row_ne (show 73 ≠ 74 by decide), zs_row]
          have f2 : ∀ v : Int, zs (zs (zs g 73 n (p : Int)) 74 n (q : Int)) 14 46 v 74 i = if i = n then (q : Int) else g 74 i := fun v => by
            rw [zs_row_ne (show 74 ≠ 14 by decide), zs_row, zs_row_ne (show 74 ≠ 73 by decide)]
          rw [f1, f2]
          dsimp only
          by_cases hin : i = n
          · rw [if_pos hin, if_pos hin, if_pos hin, if_pos hin]
            exact ⟨rfl, rfl⟩
          · rw [if_neg hin, if_neg hin, if_neg hin, if_neg hin]
            exact H.2 i (by omega)
      · refine ⟨fun _ => ?_, fun hc => absurd hc.2.2 h3⟩
        rw [if_pos (by omega)]
    · rw [if_neg h2]
      exact ⟨fun _ => rfl, fun hc => absurd hc.2.1 h2⟩
  · rw [if_neg h1]
    exact ⟨fun _ => rfl, fun hc => absurd hc.1 h1⟩
/-- how much of what was seen is false -/
def fbc (t : Nat → Nat) (s : Nat) : Nat → Int := fun o => if s.testBit o then (t (32 + 4 * o) : Int) else -1
def fb (np : Nat) (t sP sH : Nat → Nat) (s : Nat) : Nat → Nat
  | 0 => 0
  | i + 1 => fb np t sP sH s i + if por np t (fbc t s) (sP i) = sH i then 0 else 1
theorem fb_le {np : Nat} {t sP sH : Nat → Nat} {s : Nat} (n : Nat) : fb np t sP sH s n ≤ n := by
  induction n with
  | zero => exact Nat.le_refl _
  | succ n ih =>
    unfold fb
    split <;> omega
theorem falX {np nd nr n : Nat} {t sP sH : Nat → Nat} {h : zH} (V : HV np nd nr t) (X : HX np nd nr t h) (Nv : NV np n sP sH) (H : NX n sP sH h) {N : Nat} (hN : 20 ≤ N) {s : Nat} (hs : s < 256) : ∃ h', fX7_falsehoods N 2 (s : Int) h = some ((fb np t sP sH s n : Int), h') ∧ FR [48] h h' := by
  have v := V.1
  have n12 := Nv.1
  have hf : ∀ o, o < np → t (32 + 4 * o) < 8 := fun o ho => by have := (V.2.2.2.1 o ho).1; omega
  refine zloopq (F := fun k i (x : zH) => fX7_falsehoods_c2 N 2 k (s : Int) i x) (n := np) (s := h) (fun i x => FR [48] h x ∧ ∀ o, o < i → x 48 o = fbc t s o) (fun b => ∃ h', b = some ((fb np t sP sH s n : Int), h') ∧ FR [48] h h') (fun k i x hi hI => ?_) (fun k x hI => ?_) (by omega) ⟨FR_rf, fun o ho => absurd ho (Nat.not_lt_zero _)⟩
  · obtain ⟨i1, i2⟩ := hI
    have Xx : HX np nd nr t x := HX_to X (i1 16 (by decide)) (i1 17 (by decide)) (i1 18 (by decide))
    have ep : ∀ v : Int, fX10_put 48 (i : Int) v x = zs x 48 i v := fun v => by rw [put_in (by omega) (by show _ < ((6 : Nat) : Int); omega), Int.toNat_natCast]
    left
    refine ⟨zs x 48 i (fbc t s i), ?_, FR_tr i1 (fun b hb => zs_row_ne (fun e => hb (by rw [e]; decide))), fun o ho => ?_⟩
    · show fX7_falsehoods_c2b N 2 (fX7_falsehoods_c2 N 2 k) _ _ _ = _
      unfold fX7_falsehoods_c2b
      rw [xm1 Xx, zw_id (show -2147483648 ≤ (np : Int) ∧ (np : Int) < 2147483648 by omega), zw_id (show -2147483648 ≤ (i : Int) ∧ (i : Int) < 2147483648 by omega), if_neg (by omega), isIn_tab _ hs i (by omega), zq, xi10 V Xx hi, ep, ep]
      unfold fbc
      cases s.testBit i with
      | true => rfl
      | false => rfl
    · by_cases hoi : o = i
      · subst hoi; exact zs_at
      · rw [zs_ne hoi]; exact i2 o (by omega)
  · obtain ⟨i1, i2⟩ := hI
    have Xx : HX np nd nr t x := HX_to X (i1 16 (by decide)) (i1 17 (by decide)) (i1 18 (by decide))
    have Hx : NX n sP sH x := NX_to H (by rw [i1 13 (by decide)]) (i1 46 (by decide)) (i1 47 (by decide))
    have hch : ∀ o, o < np → x 48 o = fbc t s o ∧ -1 ≤ fbc t s o ∧ fbc t s o < 1000 := fun o ho => by
      have := hf o ho
      refine ⟨i2 o ho, ?_⟩
      unfold fbc
      split <;> omega
    refine ⟨x, ?_, i1⟩
    show fX7_falsehoods_c2b N 2 (fX7_falsehoods_c2 N 2 k) _ _ _ = _
    unfold fX7_falsehoods_c2b
    rw [xm1 Xx, if_pos (by omega)]
    refine zloopq (F := fun k i (y : Int) => fX7_falsehoods_c49 N 2 k y i x) (n := n) (s := 0) (fun i y => y = (fb np t sP sH s i : Int)) (fun b => b = some ((fb np t sP sH s n : Int), x)) (fun k i y hi hI => ?_) (fun k y hI => ?_) (by omega) rfl
    · obtain ⟨n1, n2⟩ := Nv.2 i hi
      obtain ⟨m1, m2⟩ := Hx.2 i hi
      have hp := por_le V (ch := fbc t s) n1
      have a1 : fX10_at 46 (i : Int) x = (sP i : Int) := by rw [at_in (by omega) (by show _ < ((12 : Nat) : Int); omega), Int.toNat_natCast]; exact m1
      have a2 : fX10_at 47 (i : Int) x = (sH i : Int) := by rw [at_in (by omega) (by show _ < ((12 : Nat) : Int); omega), Int.toNat_natCast]; exact m2
      left
      refine ⟨_, ?_, rfl⟩
      show fX7_falsehoods_c49b N 2 (fX7_falsehoods_c49 N 2 k) _ _ _ = _
      unfold fX7_falsehoods_c49b
      rw [Hx.1, zw_id (show -2147483648 ≤ (n : Int) ∧ (n : Int) < 2147483648 by omega), zw_id (show -2147483648 ≤ (i : Int) ∧ (i : Int) < 2147483648 by omega), if_neg (by omega), a1, a2, porX V Xx (show zln 48 = 6 from rfl) hch (by omega) n1, zb_some, zw_id (show -2147483648 ≤ (por np t (fbc t s) (sP i) : Int) ∧ (por np t (fbc t s) (sP i) : Int) < 2147483648 by omega), zw_id (show -2147483648 ≤ (sH i : Int) ∧ (sH i : Int) < 2147483648 by omega), hI]
      have e : fb np t sP sH s (i + 1) = fb np t sP sH s i + if por np t (fbc t s) (sP i) = sH i then 0 else 1 := rfl
      rw [e]
      by_cases hc : por np t (fbc t s) (sP i) = sH i
      · rw [if_pos (by omega), if_pos hc]; rfl
      · rw [if_neg (by omega), if_neg hc]; rfl
    · show fX7_falsehoods_c49b N 2 (fX7_falsehoods_c49 N 2 k) _ _ _ = _
      unfold fX7_falsehoods_c49b
      rw [Hx.1, if_pos (by omega), hI]
theorem falM {np nd nr n : Nat} {t sP sH : Nat → Nat} {g : zH} (V : HV np nd nr t) (M : HM np nd nr t g) (Nv : NV np n sP sH) (H : NMo n sP sH g) {N : Nat} (hN : 20 ≤ N) {s : Nat} (hs : s < 256) : fX11_falseBy N (s : Int) g = some (fb np t sP sH s n : Int) := by
  have v := V.1
  have n12 := Nv.1
  refine zloopq (F := fun k i (y : Int) => fX11_falseBy_c4 N g k (s : Int) y i) (n := n) (s := 0) (fun i y => y = (fb np t sP sH s i : Int)) (fun b => b = some (fb np t sP sH s n : Int)) (fun k i y hi hI => ?_) (fun k y hI => ?_) (by omega) rfl
  · obtain ⟨n1, n2⟩ := Nv.2 i hi
    obtain ⟨m1, m2⟩ := H.2 i hi
    have hp := por_le V (ch := fbc t s) n1
    left
    refine ⟨_, ?_, rfl⟩
    show fX11_falseBy_c4b N g (fX11_falseBy_c4 N g k) _ _ _ = _
    unfold fX11_falseBy_c4b
    rw [H.1, zw_id (show -2147483648 ≤ (n : Int) ∧ (n : Int) < 2147483648 by omega), zw_id (show -2147483648 ≤ (i : Int) ∧ (i : Int) < 2147483648 by omega), if_neg (by omega), if_pos (by omega), Int.toNat_natCast, m1, m2, show fX11_hoursBy N (sP i : Int) (s : Int) g = some (por np t (fbc t s) (sP i) : Int) from houM V M (by omega) hs n1, zb_some, if_pos (by omega), zw_id (show -2147483648 ≤ (por np t (fbc t s) (sP i) : Int) ∧ (por np t (fbc t s) (sP i) : Int) < 2147483648 by omega), zw_id (show -2147483648 ≤ (sH i : Int) ∧ (sH i : Int) < 2147483648 by omega), hI]
    have e : fb np t sP sH s (i + 1) = fb np t sP sH s i + if por np t (fbc t s) (sP i) = sH i then 0 else 1 := rfl
    rw [e]
    by_cases hc : por np t (fbc t s) (sP i) = sH i
    · rw [if_pos (by omega), if_pos hc]; rfl
    · rw [if_neg (by omega), if_neg hc]; rfl
  · show fX11_falseBy_c4b N g (fX11_falseBy_c4 N g k) _ _ _ = _
    unfold fX11_falseBy_c4b
    rw [H.1, if_pos (by omega), hI]
def cm (f : Nat → Nat) : Nat → Nat
  | 0 => 0
  | n + 1 => cm f n + if f n = 0 then 1 else 0
theorem cm_le {f : Nat → Nat} (n : Nat) : cm f n ≤ n := by
  induction n with
  | zero => exact Nat.le_refl _
  | succ n ih => unfold cm; split <;> omega
/-- the i-th set by which all is so -/
def cS (f : Nat → Nat) (i : Int) : Nat → Option Nat
  | 0 => none
  | n + 1 => match cS f i n with
    | some s => some s
    | none => if f n = 0 ∧ (cm f n : Int) = i then some n else none
theorem cS_mono {f : Nat → Nat} {i : Int} {n m s : Nat} (h : cS f i n = some s) (hm : n ≤ m) : cS f i m = some s := by
  induction m with
  | zero =>
    have : n = 0 := by omega
    subst this; exact h
  | succ m ih =>
    by_cases hc : n = m + 1
    · subst hc; exact h
    · unfold cS
      rw [ih (by omega)]
def cRes (f : Nat → Nat) (i : Int) (M : Nat) : Int := match cS f i M with
  | some s => (s : Int)
  | none => if i = -1 then (cm f M : Int) else -1
def sF (f : Nat → Nat) : Nat → Int
  | 0 => -1
  | n + 1 => if f n = 0 then zand (sF f n) (n : Int) else sF f n
def mnF (a : Nat) (f : Nat → Nat) : Nat → Nat
  | 0 => a
  | n + 1 => if mnF a f n ≤ f n then mnF a f n else f n
theorem zand_m1 : ∀ n : Nat, n < 256 → zand (-1) (n : Int) = (n : Int) := by decide +kernel
theorem sF_b {f : Nat → Nat} {n : Nat} (hn : n ≤ 256) : sF f n = -1 ∨ ∃ s : Nat, sF f n = (s : Int) ∧ s < 256 := by
  induction n with
  | zero => exact Or.inl rfl
  | succ n ih =>
    unfold sF
    split
    · rcases ih (by omega) with h | ⟨s, h, hs⟩
      · rw [h, zand_m1 n (by omega)]
        exact Or.inr ⟨n, rfl, by omega⟩
      · rw [h, zand_nat (by omega) (by omega)]
        exact Or.inr ⟨_, rfl, Nat.lt_of_le_of_lt Nat.and_le_left hs⟩
    · exact ih (by omega)
theorem mnF_b {a : Nat} {f : Nat → Nat} {n : Nat} : mnF a f n ≤ a := by
  induction n with
  | zero => exact Nat.le_refl _
  | succ n ih => unfold mnF; split <;> omega
theorem mnF_eq {a b : Nat} {f : Nat → Nat} (ha : f 0 ≤ a) (hb : f 0 ≤ b) {n : Nat} (hn : 1 ≤ n) : mnF a f n = mnF b f n := by
  induction n with
  | zero => omega
  | succ n ih =>
    cases n with
    | zero =>
      show (if a ≤ f 0 then a else f 0) = if b ≤ f 0 then b else f 0
      split <;> split <;> omega
    | succ n =>
      have := ih (by omega)
      show (if mnF a f (n + 1) ≤ f (n + 1) then mnF a f (n + 1) else f (n + 1)) = if mnF b f (n + 1) ≤ f (n + 1) then mnF b f (n + 1) else f (n + 1)
      rw [this]
