/-! what a rule says, as plain data; numbers of two words -/
theorem zl2i_w (a : Int) : zl2i a = zw a := by
  unfold zl2i zl zw zi
  rw [Int64.toInt32_ofInt]
theorem zwl_id {a : Int} (h : -9000000000000000000 ≤ a ∧ a < 9000000000000000000) : zwl a = a := by
  unfold zwl zl
  exact Int64.toInt_ofInt_of_le (by omega) (by omega)
theorem zlcmp_v {a c : Int} (ha : -9000000000000000000 ≤ a ∧ a < 9000000000000000000) (hc : -9000000000000000000 ≤ c ∧ c < 9000000000000000000) : zlcmp a c = if c < a then 1 else if a = c then 0 else -1 := by
  unfold zlcmp lg_cmp
  have ea : (zl a).toInt = a := zwl_id ha
  have ec : (zl c).toInt = c := zwl_id hc
  by_cases h1 : c < a
  · have : zl a > zl c := Int64.lt_iff_toInt_lt.mpr (by rw [ea, ec]; exact h1)
    rw [if_pos this, if_pos h1]; rfl
  · have n1 : ¬ zl a > zl c := fun h => h1 (by have := Int64.lt_iff_toInt_lt.mp h; rw [ea, ec] at this; exact this)
    rw [if_neg n1, if_neg h1]
    by_cases h2 : a = c
    · rw [h2, if_pos rfl, if_pos rfl]; rfl
    · have n2 : ¬ zl a = zl c := fun h => h2 (by have := Int64.toInt_inj.mpr h; rw [ea, ec] at this; exact this)
      rw [if_neg n2, if_neg h2]; rfl
def bnd (v : Int) : Int := if v < -1000000 then -1000000 else if 1000000 < v then 1000000 else v
theorem bnd_b (v : Int) : -1000000 ≤ bnd v ∧ bnd v ≤ 1000000 := by
  unfold bnd
  split
  · omega
  · split <;> omega
theorem minmax {v : Int} (hv : -4000000000000 ≤ v ∧ v ≤ 4000000000000) : fJ9_max_f86c9 (-1000000) (fJ9_min_f86c9 1000000 v) = bnd v := by
  unfold fJ9_max_f86c9 fJ9_min_f86c9 bnd
  rw [zlcmp_v (show -9000000000000000000 ≤ (1000000 : Int) ∧ (1000000 : Int) < 9000000000000000000 by omega) (show -9000000000000000000 ≤ v ∧ v < 9000000000000000000 by omega)]
  by_cases h1 : v < 1000000
  · rw [if_pos h1, if_pos (show 0 < zw 1 by decide), zlcmp_v (by omega) (by omega)]
    by_cases h2 : v < -1000000
    · rw [if_pos h2, if_neg (show ¬ zw 1 < 0 by decide), if_pos h2]
    · rw [if_neg h2, if_neg h2]
      by_cases h3 : (-1000000 : Int) = v
      · rw [if_pos h3, if_neg (show ¬ zw 0 < 0 by decide), if_neg (by omega)]; exact h3
      · rw [if_neg h3, if_pos (show zw (-1) < 0 by decide), if_neg (by omega)]
  · rw [if_neg h1]
    have e : zlcmp (-1000000) 1000000 = -1 := (zlcmp_v (by omega) (by omega)).trans (by decide)
    by_cases h2 : (1000000 : Int) = v
    · rw [if_pos h2, if_neg (show ¬ 0 < zw 0 by decide), e, if_pos (show zw (-1) < 0 by decide), if_neg (by omega), if_neg (by omega)]; exact h2
    · rw [if_neg h2, if_neg (show ¬ 0 < zw (-1) by decide), e, if_pos (show zw (-1) < 0 by decide), if_neg (by omega), if_pos (by omega)]
/-- an expression: the class's code, the reference's, its value by the letters, the room it wants -/
abbrev zE : Type := List Int × List (Int × Int) × ((Nat → Int) → Int) × Nat
abbrev eX (e : zE) : List Int := e.1
abbrev eM (e : zE) : List (Int × Int) := e.2.1
abbrev eV (e : zE) : (Nat → Int) → Int := e.2.2.1
abbrev eN (e : zE) : Nat := e.2.2.2
def eD : zE := ([], [], fun _ => 0, 0)
def eNum (v : Int) : zE := ([v], [(0, v)], fun _ => v, 1)
def eLet (k : Nat) : zE := ([10000 + (k : Int)], [(1, (k : Int))], fun L => L k, 1)
def vop (m : Int) (x y : Int) : Int := if m = 2 then bnd (x + y) else if m = 3 then bnd (x - y) else if m = 4 then bnd (x * y) else if m = 5 then (if y = 0 then 0 else bnd (Int.tdiv x y)) else if m = 6 then (if x = y then 1 else 0) else if m = 7 then (if x < y then 1 else 0) else if m = 8 then (if y < x then 1 else 0) else if m = 10 then (if x = 0 ∨ y = 0 then 0 else 1) else (if x = 0 ∧ y = 0 then 0 else 1)
def eBin (s m : Int) (a c : zE) : zE := (eX a ++ (eX c ++ [-s]), eM a ++ (eM c ++ [(m, 0)]), fun L => vop m (eV a L) (eV c L), max (eN a) (eN c + 1))
def eNot (a : zE) : zE := (eX a ++ [-33], eM a ++ [(9, 0)], fun L => 1 - eV a L, eN a)
/-- the signs of operations and the reference's numbers for them -/
def opOK (s m : Int) : Prop := (s = 43 ∧ m = 2) ∨ (s = 45 ∧ m = 3) ∨ (s = 42 ∧ m = 4) ∨ (s = 47 ∧ m = 5) ∨ (s = 61 ∧ m = 6) ∨ (s = 60 ∧ m = 7) ∨ (s = 62 ∧ m = 8) ∨ (s = 38 ∧ m = 10) ∨ (s = 124 ∧ m = 11)
/-- what an operation asks of its operands -/
def opV (m x y : Int) : Prop := (-1000000 ≤ x ∧ x ≤ 1000000) ∧ (-1000000 ≤ y ∧ y ≤ 1000000) ∧ (10 ≤ m → (x = 0 ∨ x = 1) ∧ (y = 0 ∨ y = 1))
theorem vop2 (x y : Int) : vop 2 x y = bnd (x + y) := by
  unfold vop
  rw [if_pos rfl]
theorem vop3 (x y : Int) : vop 3 x y = bnd (x - y) := by
  unfold vop
  rw [if_neg (show ¬ (3 : Int) = 2 by decide), if_pos rfl]
theorem vop4 (x y : Int) : vop 4 x y = bnd (x * y) := by
  unfold vop
  rw [if_neg (show ¬ (4 : Int) = 2 by decide), if_neg (show ¬ (4 : Int) = 3 by decide), if_pos rfl]
theorem vop5 (x y : Int) : vop 5 x y = if y = 0 then 0 else bnd (Int.tdiv x y) := by
  unfold vop
  rw [if_neg (show ¬ (5 : Int) = 2 by decide), if_neg (show ¬ (5 : Int) = 3 by decide), if_neg (show ¬ (5 : Int) = 4 by decide), if_pos rfl]
theorem vop6 (x y : Int) : vop 6 x y = if x = y then 1 else 0 := by
  unfold vop
  rw [if_neg (show ¬ (6 : Int) = 2 by decide), if_neg (show ¬ (6 : Int) = 3 by decide), if_neg (show ¬ (6 : Int) = 4 by decide), if_neg (show ¬ (6 : Int) = 5 by decide), if_pos rfl]
theorem vop7 (x y : Int) : vop 7 x y = if x < y then 1 else 0 := by
  unfold vop
  rw [if_neg (show ¬ (7 : Int) = 2 by decide), if_neg (show ¬ (7 : Int) = 3 by decide), if_neg (show ¬ (7 : Int) = 4 by decide), if_neg (show ¬ (7 : Int) = 5 by decide), if_neg (show ¬ (7 : Int) = 6 by decide), if_pos rfl]
theorem vop8 (x y : Int) : vop 8 x y = if y < x then 1 else 0 := by
  unfold vop
  rw [if_neg (show ¬ (8 : Int) = 2 by decide), if_neg (show ¬ (8 : Int) = 3 by decide), if_neg (show ¬ (8 : Int) = 4 by decide), if_neg (show ¬ (8 : Int) = 5 by decide), if_neg (show ¬ (8 : Int) = 6 by decide), if_neg (show ¬ (8 : Int) = 7 by decide), if_pos rfl]
theorem vop10 (x y : Int) : vop 10 x y = if x = 0 ∨ y = 0 then 0 else 1 := by
  unfold vop
  rw [if_neg (show ¬ (10 : Int) = 2 by decide), if_neg (show ¬ (10 : Int) = 3 by decide), if_neg (show ¬ (10 : Int) = 4 by decide), if_neg (show ¬ (10 : Int) = 5 by decide), if_neg (show ¬ (10 : Int) = 6 by decide), if_neg (show ¬ (10 : Int) = 7 by decide), if_neg (show ¬ (10 : Int) = 8 by decide), if_pos rfl]
theorem vop11 (x y : Int) : vop 11 x y = if x = 0 ∧ y = 0 then 0 else 1 := by
  unfold vop
  rw [if_neg (show ¬ (11 : Int) = 2 by decide), if_neg (show ¬ (11 : Int) = 3 by decide), if_neg (show ¬ (11 : Int) = 4 by decide), if_neg (show ¬ (11 : Int) = 5 by decide), if_neg (show ¬ (11 : Int) = 6 by decide), if_neg (show ¬ (11 : Int) = 7 by decide), if_neg (show ¬ (11 : Int) = 8 by decide), if_neg (show ¬ (11 : Int) = 10 by decide)]
theorem vop_b {s m x y : Int} (h : opOK s m) : (-1000000 ≤ vop m x y ∧ vop m x y ≤ 1000000) ∧ (6 ≤ m → vop m x y = 0 ∨ vop m x y = 1) := by
  have b1 := bnd_b (x + y)
  have b2 := bnd_b (x - y)
  have b3 := bnd_b (x * y)
  have b4 := bnd_b (Int.tdiv x y)
  rcases h with h | h | h | h | h | h | h | h | h <;> (obtain ⟨_, rfl⟩ := h)
  · rw [vop2]; exact ⟨b1, fun h => absurd h (by decide)⟩
  · rw [vop3]; exact ⟨b2, fun h => absurd h (by decide)⟩
  · rw [vop4]; exact ⟨b3, fun h => absurd h (by decide)⟩
  · rw [vop5]
    refine ⟨?_, fun h => absurd h (by decide)⟩
    split
    · omega
    · exact b4
  · rw [vop6]
    split <;> omega
  · rw [vop7]
    split <;> omega
  · rw [vop8]
    split <;> omega
  · rw [vop10]
    split <;> omega
  · rw [vop11]
    split <;> omega
theorem mul_b {x y : Int} (hx : -1000000 ≤ x ∧ x ≤ 1000000) (hy : -1000000 ≤ y ∧ y ≤ 1000000) : -1000000000000 ≤ x * y ∧ x * y ≤ 1000000000000 := by
  have hxn : x.natAbs ≤ 1000000 := by omega
  have hyn : y.natAbs ≤ 1000000 := by omega
  have h := Nat.mul_le_mul hxn hyn
  rw [← Int.natAbs_mul] at h
  omega
theorem tdiv_b {x y : Int} (hx : -1000000 ≤ x ∧ x ≤ 1000000) : -1000000 ≤ Int.tdiv x y ∧ Int.tdiv x y ≤ 1000000 := by
  have h : (Int.tdiv x y).natAbs = x.natAbs / y.natAbs := Int.natAbs_tdiv x y
  have h2 := Nat.div_le_self x.natAbs y.natAbs
  omega
theorem zdiv_v {x y : Int} (hx : -1000000 ≤ x ∧ x ≤ 1000000) (hy : -1000000 ≤ y ∧ y ≤ 1000000) : zdiv x y = Int.tdiv x y := by
  unfold zdiv
  rw [Int32.toInt_div]
  have e1 : (zi x).toInt = x := zw_id (by omega)
  have e2 : (zi y).toInt = y := zw_id (by omega)
  rw [e1, e2]
  have b := tdiv_b (y := y) hx
  exact Int.bmod_eq_of_le (by omega) (by omega)
theorem zldiv_v {x y : Int} (hx : -1000000 ≤ x ∧ x ≤ 1000000) (hy : -1000000 ≤ y ∧ y ≤ 1000000) : zldiv x y = Int.tdiv x y := by
  unfold zldiv
  rw [Int64.toInt_div]
  have e1 : (zl x).toInt = x := zwl_id (by omega)
  have e2 : (zl y).toInt = y := zwl_id (by omega)
  rw [e1, e2]
  have b := tdiv_b (y := y) hx
  exact Int.bmod_eq_of_le (by omega) (by omega)
theorem bits2 : zand 0 0 = 0 ∧ zand 0 1 = 0 ∧ zand 1 0 = 0 ∧ zand 1 1 = 1 ∧ zor 0 0 = 0 ∧ zor 0 1 = 1 ∧ zor 1 0 = 1 ∧ zor 1 1 = 1 := by decide +kernel
/-- the class's operations -/
theorem joinX {s m x y : Int} (h : opOK s m) (V : opV m x y) : ∃ v, fX5_joined s x y = some v ∧ zl2i (fJ9_max_f86c9 (-1000000) (fJ9_min_f86c9 1000000 v)) = vop m x y := by
  obtain ⟨hx, hy, hb⟩ := V
  have wx : zw x = x := zw_id (by omega)
  have wy : zw y = y := zw_id (by omega)
  have mb := mul_b hx hy
  have db := tdiv_b (y := y) hx
  have fin : ∀ v : Int, -4000000000000 ≤ v ∧ v ≤ 4000000000000 → zl2i (fJ9_max_f86c9 (-1000000) (fJ9_min_f86c9 1000000 v)) = bnd v := fun v hv => by
    have := bnd_b v
    rw [minmax hv, zl2i_w, zw_id (by omega)]
  have f0 : zl2i (fJ9_max_f86c9 (-1000000) (fJ9_min_f86c9 1000000 0)) = 0 := (fin 0 (by decide)).trans (by decide)
  have f1 : zl2i (fJ9_max_f86c9 (-1000000) (fJ9_min_f86c9 1000000 1)) = 1 := (fin 1 (by decide)).trans (by decide)
  have sz : zw s = s := by
    rcases h with h | h | h | h | h | h | h | h | h <;> (obtain ⟨rfl, _⟩ := h) <;> decide
  unfold fX5_joined
  rw [sz, wx, wy]
  rcases h with h | h | h | h | h | h | h | h | h <;> (obtain ⟨rfl, rfl⟩ := h)
  · rw [if_neg (show ¬ (43 : Int) = 38 by decide), if_neg (show ¬ (43 : Int) = 42 by decide), if_pos rfl, vop2]
    refine ⟨zw (x + y), rfl, ?_⟩
    rw [zw_id (show -2147483648 ≤ x + y ∧ x + y < 2147483648 by omega), fin _ (by omega)]
  · rw [if_neg (show ¬ (45 : Int) = 38 by decide), if_neg (show ¬ (45 : Int) = 42 by decide), if_neg (show ¬ (45 : Int) = 43 by decide), if_pos rfl, vop3]
    refine ⟨zw (x - y), rfl, ?_⟩
    rw [zw_id (show -2147483648 ≤ x - y ∧ x - y < 2147483648 by omega), fin _ (by omega)]
  · rw [if_neg (show ¬ (42 : Int) = 38 by decide), if_pos rfl, vop4]
    refine ⟨x * y, rfl, ?_⟩
    rw [fin _ (by omega)]
  · rw [if_neg (show ¬ (47 : Int) = 38 by decide), if_neg (show ¬ (47 : Int) = 42 by decide), if_neg (show ¬ (47 : Int) = 43 by decide), if_neg (show ¬ (47 : Int) = 45 by decide), if_pos rfl, vop5]
    by_cases hy0 : y = 0
    · rw [if_pos hy0, if_pos hy0]
      exact ⟨0, rfl, f0⟩
    · rw [if_neg hy0, if_pos hy0, if_neg hy0]
      refine ⟨zw (zdiv x y), rfl, ?_⟩
      rw [zdiv_v hx hy, zw_id (show -2147483648 ≤ Int.tdiv x y ∧ Int.tdiv x y < 2147483648 by omega), fin _ (by omega)]
  · rw [if_neg (show ¬ (61 : Int) = 38 by decide), if_neg (show ¬ (61 : Int) = 42 by decide), if_neg (show ¬ (61 : Int) = 43 by decide), if_neg (show ¬ (61 : Int) = 45 by decide), if_neg (show ¬ (61 : Int) = 47 by decide), if_neg (show ¬ (61 : Int) = 60 by decide), if_pos rfl, vop6]
    by_cases c : x = y
    · rw [if_pos c, if_pos c]; exact ⟨1, rfl, f1⟩
    · rw [if_neg c, if_neg c]; exact ⟨0, rfl, f0⟩
  · rw [if_neg (show ¬ (60 : Int) = 38 by decide), if_neg (show ¬ (60 : Int) = 42 by decide), if_neg (show ¬ (60 : Int) = 43 by decide), if_neg (show ¬ (60 : Int) = 45 by decide), if_neg (show ¬ (60 : Int) = 47 by decide), if_pos rfl, vop7]
    by_cases c : y ≤ x
    · rw [if_pos c, if_neg (by omega)]; exact ⟨0, rfl, f0⟩
    · rw [if_neg c, if_pos (by omega)]; exact ⟨1, rfl, f1⟩
  · rw [if_neg (show ¬ (62 : Int) = 38 by decide), if_neg (show ¬ (62 : Int) = 42 by decide), if_neg (show ¬ (62 : Int) = 43 by decide), if_neg (show ¬ (62 : Int) = 45 by decide), if_neg (show ¬ (62 : Int) = 47 by decide), if_neg (show ¬ (62 : Int) = 60 by decide), if_neg (show ¬ (62 : Int) = 61 by decide), if_pos rfl, vop8]
    by_cases c : x ≤ y
    · rw [if_pos c, if_neg (by omega)]; exact ⟨0, rfl, f0⟩
    · rw [if_neg c, if_pos (by omega)]; exact ⟨1, rfl, f1⟩
  · obtain ⟨b1, b2, b3, b4, _⟩ := bits2
    obtain ⟨hx1, hy1⟩ := hb (by decide)
    rw [if_pos rfl, vop10]
    rcases hx1 with rfl | rfl <;> rcases hy1 with rfl | rfl
    · exact ⟨_, rfl, by rw [b1, zw_0, f0]; rfl⟩
    · exact ⟨_, rfl, by rw [b2, zw_0, f0]; rfl⟩
    · exact ⟨_, rfl, by rw [b3, zw_0, f0]; rfl⟩
    · exact ⟨_, rfl, by rw [b4, show zw 1 = 1 by decide, f1]; rfl⟩
  · obtain ⟨_, _, _, _, b1, b2, b3, b4⟩ := bits2
    obtain ⟨hx1, hy1⟩ := hb (by decide)
    rw [if_neg (show ¬ (124 : Int) = 38 by decide), if_neg (show ¬ (124 : Int) = 42 by decide), if_neg (show ¬ (124 : Int) = 43 by decide), if_neg (show ¬ (124 : Int) = 45 by decide), if_neg (show ¬ (124 : Int) = 47 by decide), if_neg (show ¬ (124 : Int) = 60 by decide), if_neg (show ¬ (124 : Int) = 61 by decide), if_neg (show ¬ (124 : Int) = 62 by decide), if_pos rfl, vop11]
    rcases hx1 with rfl | rfl <;> rcases hy1 with rfl | rfl
    · exact ⟨_, rfl, by rw [b1, zw_0, f0]; rfl⟩
    · exact ⟨_, rfl, by rw [b2, show zw 1 = 1 by decide, f1]; rfl⟩
    · exact ⟨_, rfl, by rw [b3, show zw 1 = 1 by decide, f1]; rfl⟩
    · exact ⟨_, rfl, by rw [b4, show zw 1 = 1 by decide, f1]; rfl⟩
/-- the reference's -/
theorem workedM {s m x y : Int} (h : opOK s m) (V : opV m x y) : fX11_worked m x y = some (vop m x y) := by
  obtain ⟨hx, hy, hb⟩ := V
  have mb := mul_b hx hy
  have db := tdiv_b (y := y) hx
  have fin : ∀ v : Int, -4000000000000 ≤ v ∧ v ≤ 4000000000000 → fX11_bounded v = bnd v := fun v hv => by
    have := bnd_b v
    unfold fX11_bounded
    rw [minmax hv, zlet_v, zl2i_w, zw_id (by omega)]
  have sz : zw m = m := by
    rcases h with h | h | h | h | h | h | h | h | h <;> (obtain ⟨_, rfl⟩ := h) <;> decide
  have k0 : ∀ v : Int, -1000000 ≤ v ∧ v ≤ 1000000 → (zw (zlcmp v 0) = 0 ↔ v = 0) := fun v hv => by
    rw [zlcmp_v (by omega) (by decide)]
    by_cases c1 : 0 < v
    · rw [if_pos c1]
      exact ⟨fun h => absurd h (by decide), fun h => by omega⟩
    · rw [if_neg c1]
      by_cases c2 : v = 0
      · rw [if_pos c2]; exact ⟨fun _ => c2, fun _ => zw_0⟩
      · rw [if_neg c2]; exact ⟨fun h => absurd h (by decide), fun h => absurd h c2⟩
  have kx := k0 x hx
  have ky := k0 y hy
  have kc : zlcmp x y = if y < x then 1 else if x = y then 0 else -1 := zlcmp_v (by omega) (by omega)
  unfold fX11_worked
  rw [sz]
  rcases h with h | h | h | h | h | h | h | h | h <;> (obtain ⟨_, rfl⟩ := h)
  · rw [if_pos rfl, vop2, fin _ (by omega)]
  · rw [if_neg (show ¬ (3 : Int) = 2 by decide), if_pos rfl, vop3, fin _ (by omega)]
  · rw [if_neg (show ¬ (4 : Int) = 2 by decide), if_neg (show ¬ (4 : Int) = 3 by decide), if_pos rfl, vop4, fin _ (by omega)]
  · rw [if_neg (show ¬ (5 : Int) = 2 by decide), if_neg (show ¬ (5 : Int) = 3 by decide), if_neg (show ¬ (5 : Int) = 4 by decide), if_pos rfl, vop5]
    by_cases hy0 : y = 0
    · rw [if_pos (ky.mpr hy0), if_pos hy0]
    · rw [if_neg (fun h => hy0 (ky.mp h)), zwl_id (show -9000000000000000000 ≤ y ∧ y < 9000000000000000000 by omega), if_pos hy0, if_neg hy0, zldiv_v hx hy, fin _ (by omega)]
  · rw [if_neg (show ¬ (6 : Int) = 2 by decide), if_neg (show ¬ (6 : Int) = 3 by decide), if_neg (show ¬ (6 : Int) = 4 by decide), if_neg (show ¬ (6 : Int) = 5 by decide), if_pos rfl, vop6, kc]
    by_cases c1 : y < x
    · rw [if_pos c1, if_neg (by decide), if_neg (by omega)]
    · rw [if_neg c1]
      by_cases c2 : x = y
      · rw [if_pos c2, if_pos zw_0, if_pos c2]
      · rw [if_neg c2, if_neg (by decide), if_neg c2]
  · rw [if_neg (show ¬ (7 : Int) = 2 by decide), if_neg (show ¬ (7 : Int) = 3 by decide), if_neg (show ¬ (7 : Int) = 4 by decide), if_neg (show ¬ (7 : Int) = 5 by decide), if_neg (show ¬ (7 : Int) = 6 by decide), if_pos rfl, vop7, kc]
    by_cases c1 : y < x
    · rw [if_pos c1, if_pos (by decide), if_neg (by omega)]
    · rw [if_neg c1]
      by_cases c2 : x = y
      · rw [if_pos c2, if_pos (by decide), if_neg (by omega)]
      · rw [if_neg c2, if_neg (by decide), if_pos (by omega)]
  · rw [if_neg (show ¬ (8 : Int) = 2 by decide), if_neg (show ¬ (8 : Int) = 3 by decide), if_neg (show ¬ (8 : Int) = 4 by decide), if_neg (show ¬ (8 : Int) = 5 by decide), if_neg (show ¬ (8 : Int) = 6 by decide), if_neg (show ¬ (8 : Int) = 7 by decide), if_pos rfl, vop8, kc]
    by_cases c1 : y < x
    · rw [if_pos c1, if_neg (by decide), if_pos c1]
    · rw [if_neg c1]
      by_cases c2 : x = y
      · rw [if_pos c2, if_pos (by decide), if_neg c1]
      · rw [if_neg c2, if_pos (by decide), if_neg c1]
  · rw [if_neg (show ¬ (10 : Int) = 2 by decide), if_neg (show ¬ (10 : Int) = 3 by decide), if_neg (show ¬ (10 : Int) = 4 by decide), if_neg (show ¬ (10 : Int) = 5 by decide), if_neg (show ¬ (10 : Int) = 6 by decide), if_neg (show ¬ (10 : Int) = 7 by decide), if_neg (show ¬ (10 : Int) = 8 by decide), if_neg (show ¬ (10 : Int) = 9 by decide), if_pos rfl, vop10]
    by_cases c1 : x = 0
    · rw [if_pos (kx.mpr c1), if_pos (Or.inl c1)]
    · rw [if_neg (fun h => c1 (kx.mp h))]
      by_cases c2 : y = 0
      · rw [if_pos (ky.mpr c2), if_pos (Or.inr c2)]
      · rw [if_neg (fun h => c2 (ky.mp h)), if_neg (by omega)]
  · rw [if_neg (show ¬ (11 : Int) = 2 by decide), if_neg (show ¬ (11 : Int) = 3 by decide), if_neg (show ¬ (11 : Int) = 4 by decide), if_neg (show ¬ (11 : Int) = 5 by decide), if_neg (show ¬ (11 : Int) = 6 by decide), if_neg (show ¬ (11 : Int) = 7 by decide), if_neg (show ¬ (11 : Int) = 8 by decide), if_neg (show ¬ (11 : Int) = 9 by decide), if_neg (show ¬ (11 : Int) = 10 by decide), vop11]
    by_cases c1 : x = 0
    · rw [if_pos (kx.mpr c1)]
      by_cases c2 : y = 0
      · rw [if_pos (ky.mpr c2), if_pos ⟨c1, c2⟩]
      · rw [if_neg (fun h => c2 (ky.mp h)), if_neg (by omega)]
    · rw [if_neg (fun h => c1 (kx.mp h)), if_neg (by omega)]
