/-! the state of an hour as plain numbers -/
abbrev hSt : Type := (Nat → Nat) × (Nat → Int) × (Nat → Nat) × (Nat → Int) × (Nat → Int) × (Nat → Int) × List Nat × Nat × List (Nat × Nat)
abbrev aH (a : hSt) : Nat → Nat := a.1
abbrev aW (a : hSt) : Nat → Int := a.2.1
abbrev aD (a : hSt) : Nat → Nat := a.2.2.1
abbrev aS (a : hSt) : Nat → Int := a.2.2.2.1
abbrev aP (a : hSt) : Nat → Int := a.2.2.2.2.1
abbrev aR (a : hSt) : Nat → Int := a.2.2.2.2.2.1
abbrev aQ (a : hSt) : List Nat := a.2.2.2.2.2.2.1
abbrev aT (a : hSt) : Nat := a.2.2.2.2.2.2.2.1
abbrev aL (a : hSt) : List (Nat × Nat) := a.2.2.2.2.2.2.2.2
def stnd (t : Nat → Nat) (w : Int) : Int := if w = -1 then -1 else t (96 + 4 * w.toNat)
/-- the class's cells of a state -/
def XS (np : Nat) (t : Nat → Nat) (a : hSt) (rc : Nat → Int) : Prop := (∀ p, p < np → rc p = aH a p ∧ rc (6 + p) = aW a p ∧ rc (12 + p) = aD a p ∧ rc (18 + p) = aS a p ∧ rc (24 + p) = aP a p ∧ rc (30 + p) = aR a p ∧ rc (36 + p) = stnd t (aW a p)) ∧ rc 48 = aT a ∧ rc 49 = (aQ a).length ∧ (∀ i, i < (aQ a).length → rc (42 + i) = ((aQ a).getD i 0 : Nat)) ∧ rc 50 = (aL a).length
/-- the class's days -/
def XD (L : List (Nat × Nat)) (rd : Nat → Int) : Prop := ∀ i, i < L.length → rd (L.length - 1 - i) = (64 * (L.getD i (0, 0)).1 + (L.getD i (0, 0)).2 : Nat)
/-- the reference's numbers of a state, with fewer than B tickets -/
def MS (np B : Nat) (a : hSt) (m : Nat → Int) : Prop := (∀ p, p < np → m (7 * p) = aH a p ∧ m (7 * p + 1) = aW a p ∧ m (7 * p + 3) = aD a p ∧ m (7 * p + 4) = aS a p ∧ m (7 * p + 5) = aP a p ∧ m (7 * p + 6) = aR a p) ∧ m 42 = aT a ∧ (0 ≤ m 43 ∧ m 43 ≤ B) ∧ (∀ x, x ∈ aQ a → 0 ≤ m (7 * x + 2) ∧ m (7 * x + 2) < m 43) ∧ (aQ a).Pairwise (fun x y => m (7 * x + 2) < m (7 * y + 2)) ∧ m 44 = (min 60 (aL a).length : Nat) ∧ ∀ i, i < min 60 (aL a).length → m (45 + 2 * (min 60 (aL a).length - 1 - i)) = ((aL a).getD i (0, 0)).2 ∧ m (46 + 2 * (min 60 (aL a).length - 1 - i)) = ((aL a).getD i (0, 0)).1
/-- what is valid of a state -/
def AV (np nd nr : Nat) (t : Nat → Nat) (a : hSt) : Prop := (∀ p, p < np → aH a p < 256 ∧ ((aW a p = -1 ∧ aD a p = 0) ∨ ∃ r, r < nr ∧ aW a p = (r : Nat) ∧ aD a p ≤ t (66 + 4 * t (96 + 4 * r)))) ∧ (aQ a).Nodup ∧ (∀ p, p ∈ aQ a ↔ p < np ∧ aW a p ≠ -1) ∧ True ∧ ∀ e, e ∈ aL a → e.1 < 1000 ∧ e.2 < 64
def aEnq (p r : Nat) (a : hSt) : hSt := (aH a, fun q => if q = p then (r : Int) else aW a q, aD a, aS a, aP a, aR a, aQ a ++ [p], aT a, aL a)
def aLeave (p : Nat) (a : hSt) : hSt := (aH a, fun q => if q = p then -1 else aW a q, fun q => if q = p then 0 else aD a q, aS a, aP a, aR a, (aQ a).filter (fun q => decide (q ≠ p)), aT a, aL a)
def aFirst (t : Nat → Nat) (d : Nat) (a : hSt) : Option Nat := (aQ a).find? (fun p => decide (stnd t (aW a p) = d))
def aBack (t : Nat → Nat) (d : Nat) (a : hSt) : Nat := (aQ a).countP (fun p => decide (stnd t (aW a p) = d))
theorem getD_get {l : List Nat} {i : Nat} (h : i < l.length) : l.getD i 0 = l[i] := by
  rw [List.getD_eq_getElem?_getD, List.getElem?_eq_getElem h]
  rfl
theorem aQ_perm {np nd nr : Nat} {t : Nat → Nat} {a : hSt} (A : AV np nd nr t a) : (aQ a).Perm ((List.range np).filter (fun p => decide (aW a p ≠ -1))) := by
  refine (List.perm_ext_iff_of_nodup A.2.1 (List.Pairwise.filter _ List.nodup_range)).mpr (fun p => ?_)
  rw [A.2.2.1 p, List.mem_filter, List.mem_range, decide_eq_true_iff]
theorem aQ_len {np nd nr : Nat} {t : Nat → Nat} {a : hSt} (A : AV np nd nr t a) : (aQ a).length ≤ np := by
  rw [(aQ_perm A).length_eq]
  have := List.length_filter_le (fun p => decide (aW a p ≠ -1)) (List.range np)
  rw [List.length_range] at this
  exact this
theorem aQ_lt {np nd nr : Nat} {t : Nat → Nat} {a : hSt} (A : AV np nd nr t a) {p : Nat} (hp : p < np) (hw : aW a p = -1) : (aQ a).length < np := by
  rw [(aQ_perm A).length_eq]
  have := List.length_filter_lt_length_iff_exists (p := fun p => decide (aW a p ≠ -1)) (l := List.range np)
  rw [List.length_range] at this
  exact this.mpr ⟨p, List.mem_range.mpr hp, by rw [decide_eq_true_iff]; exact fun h => h hw⟩
theorem aQ_get {np nd nr : Nat} {t : Nat → Nat} {a : hSt} (A : AV np nd nr t a) {i : Nat} (hi : i < (aQ a).length) : (aQ a).getD i 0 < np ∧ aW a ((aQ a).getD i 0) ≠ -1 := by
  refine (A.2.2.1 _).mp ?_
  rw [getD_get hi]
  exact List.getElem_mem hi
theorem stnd_r {t : Nat → Nat} {r : Nat} : stnd t (r : Int) = t (96 + 4 * r) := by
  unfold stnd
  rw [if_neg (by omega), Int.toNat_natCast]
theorem stnd_in {np nd nr : Nat} {t : Nat → Nat} {a : hSt} (V : HV np nd nr t) (A : AV np nd nr t a) {p : Nat} (hp : p < np) : -1 ≤ stnd t (aW a p) ∧ stnd t (aW a p) < nd := by
  obtain ⟨-, h⟩ := A.1 p hp
  rcases h with ⟨h1, -⟩ | ⟨r, hr, h1, -⟩
  · rw [h1]; unfold stnd; rw [if_pos rfl]; omega
  · rw [h1, stnd_r]
    have := (V.2.2.2.2.2 r hr).1
    omega
theorem aEnq_AV {np nd nr : Nat} {t : Nat → Nat} {a : hSt} (V : HV np nd nr t) (A : AV np nd nr t a) {p r : Nat} (hp : p < np) (hr : r < nr) (hw : aW a p = -1) : AV np nd nr t (aEnq p r a) := by
  obtain ⟨a1, a2, a3, a4⟩ := A
  refine ⟨fun q hq => ⟨(a1 q hq).1, ?_⟩, ?_, fun q => ?_, a4⟩
  · show ((if q = p then (r : Int) else aW a q) = -1 ∧ aD a q = 0) ∨ ∃ r', r' < nr ∧ (if q = p then (r : Int) else aW a q) = (r' : Nat) ∧ aD a q ≤ t (66 + 4 * t (96 + 4 * r'))
    by_cases h : q = p
    · subst h
      rw [if_pos rfl]
      refine Or.inr ⟨r, hr, rfl, ?_⟩
      have h0 := (a1 q hq).2
      have hd : aD a q = 0 := by
        rcases h0 with ⟨-, h0⟩ | ⟨r', -, h0, -⟩
        · exact h0
        · rw [hw] at h0; omega
      rw [hd]
      have := (V.2.2.2.2.2 r hr).1
      have := (V.2.2.2.2.1 _ this).2.2.1.1
      omega
    · rw [if_neg h]; exact (a1 q hq).2
  · show (aQ a ++ [p]).Nodup
    refine List.nodup_append.mpr ⟨a2, List.nodup_cons.mpr ⟨List.not_mem_nil, List.nodup_nil⟩, fun x hx y hy => ?_⟩
    rw [List.mem_singleton] at hy
    subst hy
    intro e
    subst e
    exact ((a3 x).mp hx).2 hw
  · show q ∈ aQ a ++ [p] ↔ q < np ∧ (if q = p then (r : Int) else aW a q) ≠ -1
    rw [List.mem_append, List.mem_singleton, a3 q]
    by_cases h : q = p
    · subst h
      rw [if_pos rfl]
      exact ⟨fun _ => ⟨hp, by omega⟩, fun _ => Or.inr rfl⟩
    · rw [if_neg h]
      exact ⟨fun x => x.resolve_right h, fun x => Or.inl x⟩
theorem aLeave_AV {np nd nr : Nat} {t : Nat → Nat} {a : hSt} (A : AV np nd nr t a) {p : Nat} : AV np nd nr t (aLeave p a) := by
  obtain ⟨a1, a2, a3, a4⟩ := A
  refine ⟨fun q hq => ⟨(a1 q hq).1, ?_⟩, List.Pairwise.filter _ a2, fun q => ?_, a4⟩
  · show ((if q = p then (-1 : Int) else aW a q) = -1 ∧ (if q = p then 0 else aD a q) = 0) ∨ ∃ r', r' < nr ∧ (if q = p then (-1 : Int) else aW a q) = (r' : Nat) ∧ (if q = p then 0 else aD a q) ≤ t (66 + 4 * t (96 + 4 * r'))
    by_cases h : q = p
    · rw [if_pos h, if_pos h]; exact Or.inl ⟨rfl, rfl⟩
    · rw [if_neg h, if_neg h]; exact (a1 q hq).2
  · show q ∈ (aQ a).filter (fun q => decide (q ≠ p)) ↔ q < np ∧ (if q = p then (-1 : Int) else aW a q) ≠ -1
    rw [List.mem_filter, a3 q, decide_eq_true_iff]
    by_cases h : q = p
    · rw [if_pos h]; exact ⟨fun x => absurd h x.2, fun x => absurd rfl x.2⟩
    · rw [if_neg h]; exact ⟨fun x => x.1, fun x => ⟨x, h⟩⟩
theorem zf70 : zfr 7 0 = 30 := rfl
theorem zf71 : zfr 7 1 = 31 := rfl
theorem zf72 : zfr 7 2 = 32 := rfl
theorem zf73 : zfr 7 3 = 33 := rfl
theorem ox7_0 {h : zH} {p : Nat} (hp : p < 6) : fX8_of 7 0 (p : Int) h = h 30 p := by
  show fX10_at 30 (((0 : Int) * 6) + (p : Int)) h = _
  rw [at_in (by omega) (by show _ < ((51 : Nat) : Int); omega), show (((0 : Int) * 6) + (p : Int)).toNat = p by omega]
theorem sx7_0 {h : zH} {p : Nat} (hp : p < 6) {v : Int} : fX8_set 7 0 (p : Int) v h = zs h 30 p v := by
  show fX10_put 30 (((0 : Int) * 6) + (p : Int)) v h = _
  rw [put_in (by omega) (by show _ < ((51 : Nat) : Int); omega), show (((0 : Int) * 6) + (p : Int)).toNat = p by omega]
theorem ox7_1 {h : zH} {p : Nat} (hp : p < 6) : fX8_of 7 1 (p : Int) h = h 30 (6 + p) := by
  show fX10_at 30 (((1 : Int) * 6) + (p : Int)) h = _
  rw [at_in (by omega) (by show _ < ((51 : Nat) : Int); omega), show (((1 : Int) * 6) + (p : Int)).toNat = (6 + p) by omega]
theorem sx7_1 {h : zH} {p : Nat} (hp : p < 6) {v : Int} : fX8_set 7 1 (p : Int) v h = zs h 30 (6 + p) v := by
  show fX10_put 30 (((1 : Int) * 6) + (p : Int)) v h = _
  rw [put_in (by omega) (by show _ < ((51 : Nat) : Int); omega), show (((1 : Int) * 6) + (p : Int)).toNat = (6 + p) by omega]
theorem ox7_2 {h : zH} {p : Nat} (hp : p < 6) : fX8_of 7 2 (p : Int) h = h 30 (12 + p) := by
  show fX10_at 30 (((2 : Int) * 6) + (p : Int)) h = _
  rw [at_in (by omega) (by show _ < ((51 : Nat) : Int); omega), show (((2 : Int) * 6) + (p : Int)).toNat = (12 + p) by omega]
theorem sx7_2 {h : zH} {p : Nat} (hp : p < 6) {v : Int} : fX8_set 7 2 (p : Int) v h = zs h 30 (12 + p) v := by
  show fX10_put 30 (((2 : Int) * 6) + (p : Int)) v h = _
  rw [put_in (by omega) (by show _ < ((51 : Nat) : Int); omega), show (((2 : Int) * 6) + (p : Int)).toNat = (12 + p) by omega]
theorem ox7_3 {h : zH} {p : Nat} (hp : p < 6) : fX8_of 7 3 (p : Int) h = h 30 (18 + p) := by
  show fX10_at 30 (((3 : Int) * 6) + (p : Int)) h = _
  rw [at_in (by omega) (by show _ < ((51 : Nat) : Int); omega), show (((3 : Int) * 6) + (p : Int)).toNat = (18 + p) by omega]
theorem sx7_3 {h : zH} {p : Nat} (hp : p < 6) {v : Int} : fX8_set 7 3 (p : Int) v h = zs h 30 (18 + p) v := by
  show fX10_put 30 (((3 : Int) * 6) + (p : Int)) v h = _
  rw [put_in (by omega) (by show _ < ((51 : Nat) : Int); omega), show (((3 : Int) * 6) + (p : Int)).toNat = (18 + p) by omega]
theorem ox7_4 {h : zH} {p : Nat} (hp : p < 6) : fX8_of 7 4 (p : Int) h = h 30 (24 + p) := by
  show fX10_at 30 (((4 : Int) * 6) + (p : Int)) h = _
  rw [at_in (by omega) (by show _ < ((51 : Nat) : Int); omega), show (((4 : Int) * 6) + (p : Int)).toNat = (24 + p) by omega]
theorem sx7_4 {h : zH} {p : Nat} (hp : p < 6) {v : Int} : fX8_set 7 4 (p : Int) v h = zs h 30 (24 + p) v := by
  show fX10_put 30 (((4 : Int) * 6) + (p : Int)) v h = _
  rw [put_in (by omega) (by show _ < ((51 : Nat) : Int); omega), show (((4 : Int) * 6) + (p : Int)).toNat = (24 + p) by omega]
theorem ox7_5 {h : zH} {p : Nat} (hp : p < 6) : fX8_of 7 5 (p : Int) h = h 30 (30 + p) := by
  show fX10_at 30 (((5 : Int) * 6) + (p : Int)) h = _
  rw [at_in (by omega) (by show _ < ((51 : Nat) : Int); omega), show (((5 : Int) * 6) + (p : Int)).toNat = (30 + p) by omega]
theorem sx7_5 {h : zH} {p : Nat} (hp : p < 6) {v : Int} : fX8_set 7 5 (p : Int) v h = zs h 30 (30 + p) v := by
  show fX10_put 30 (((5 : Int) * 6) + (p : Int)) v h = _
  rw [put_in (by omega) (by show _ < ((51 : Nat) : Int); omega), show (((5 : Int) * 6) + (p : Int)).toNat = (30 + p) by omega]
theorem ox7_6 {h : zH} {p : Nat} (hp : p < 6) : fX8_of 7 6 (p : Int) h = h 30 (36 + p) := by
  show fX10_at 30 (((6 : Int) * 6) + (p : Int)) h = _
  rw [at_in (by omega) (by show _ < ((51 : Nat) : Int); omega), show (((6 : Int) * 6) + (p : Int)).toNat = (36 + p) by omega]
theorem sx7_6 {h : zH} {p : Nat} (hp : p < 6) {v : Int} : fX8_set 7 6 (p : Int) v h = zs h 30 (36 + p) v := by
  show fX10_put 30 (((6 : Int) * 6) + (p : Int)) v h = _
  rw [put_in (by omega) (by show _ < ((51 : Nat) : Int); omega), show (((6 : Int) * 6) + (p : Int)).toNat = (36 + p) by omega]
theorem ox7_7 {h : zH} {p : Nat} (hp : p < 6) : fX8_of 7 7 (p : Int) h = h 30 (42 + p) := by
  show fX10_at 30 (((7 : Int) * 6) + (p : Int)) h = _
  rw [at_in (by omega) (by show _ < ((51 : Nat) : Int); omega), show (((7 : Int) * 6) + (p : Int)).toNat = (42 + p) by omega]
theorem sx7_7 {h : zH} {p : Nat} (hp : p < 6) {v : Int} : fX8_set 7 7 (p : Int) v h = zs h 30 (42 + p) v := by
  show fX10_put 30 (((7 : Int) * 6) + (p : Int)) v h = _
  rw [put_in (by omega) (by show _ < ((51 : Nat) : Int); omega), show (((7 : Int) * 6) + (p : Int)).toNat = (42 + p) by omega]
theorem zf80 : zfr 8 0 = 34 := rfl
theorem zf81 : zfr 8 1 = 35 := rfl
theorem zf82 : zfr 8 2 = 36 := rfl
theorem zf83 : zfr 8 3 = 37 := rfl
theorem ox8_0 {h : zH} {p : Nat} (hp : p < 6) : fX8_of 8 0 (p : Int) h = h 34 p := by
  show fX10_at 34 (((0 : Int) * 6) + (p : Int)) h = _
  rw [at_in (by omega) (by show _ < ((51 : Nat) : Int); omega), show (((0 : Int) * 6) + (p : Int)).toNat = p by omega]
theorem sx8_0 {h : zH} {p : Nat} (hp : p < 6) {v : Int} : fX8_set 8 0 (p : Int) v h = zs h 34 p v := by
  show fX10_put 34 (((0 : Int) * 6) + (p : Int)) v h = _
  rw [put_in (by omega) (by show _ < ((51 : Nat) : Int); omega), show (((0 : Int) * 6) + (p : Int)).toNat = p by omega]
theorem ox8_1 {h : zH} {p : Nat} (hp : p < 6) : fX8_of 8 1 (p : Int) h = h 34 (6 + p) := by
  show fX10_at 34 (((1 : Int) * 6) + (p : Int)) h = _
  rw [at_in (by omega) (by show _ < ((51 : Nat) : Int); omega), show (((1 : Int) * 6) + (p : Int)).toNat = (6 + p) by omega]
theorem sx8_1 {h : zH} {p : Nat} (hp : p < 6) {v : Int} : fX8_set 8 1 (p : Int) v h = zs h 34 (6 + p) v := by
  show fX10_put 34 (((1 : Int) * 6) + (p : Int)) v h = _
  rw [put_in (by omega) (by show _ < ((51 : Nat) : Int); omega), show (((1 : Int) * 6) + (p : Int)).toNat = (6 + p) by omega]
theorem ox8_2 {h : zH} {p : Nat} (hp : p < 6) : fX8_of 8 2 (p : Int) h = h 34 (12 + p) := by
  show fX10_at 34 (((2 : Int) * 6) + (p : Int)) h = _
  rw [at_in (by omega) (by show _ < ((51 : Nat) : Int); omega), show (((2 : Int) * 6) + (p : Int)).toNat = (12 + p) by omega]
theorem sx8_2 {h : zH} {p : Nat} (hp : p < 6) {v : Int} : fX8_set 8 2 (p : Int) v h = zs h 34 (12 + p) v := by
  show fX10_put 34 (((2 : Int) * 6) + (p : Int)) v h = _
  rw [put_in (by omega) (by show _ < ((51 : Nat) : Int); omega), show (((2 : Int) * 6) + (p : Int)).toNat = (12 + p) by omega]
theorem ox8_3 {h : zH} {p : Nat} (hp : p < 6) : fX8_of 8 3 (p : Int) h = h 34 (18 + p) := by
  show fX10_at 34 (((3 : Int) * 6) + (p : Int)) h = _
  rw [at_in (by omega) (by show _ < ((51 : Nat) : Int); omega), show (((3 : Int) * 6) + (p : Int)).toNat = (18 + p) by omega]
theorem sx8_3 {h : zH} {p : Nat} (hp : p < 6) {v : Int} : fX8_set 8 3 (p : Int) v h = zs h 34 (18 + p) v := by
  show fX10_put 34 (((3 : Int) * 6) + (p : Int)) v h = _
  rw [put_in (by omega) (by show _ < ((51 : Nat) : Int); omega), show (((3 : Int) * 6) + (p : Int)).toNat = (18 + p) by omega]
theorem ox8_4 {h : zH} {p : Nat} (hp : p < 6) : fX8_of 8 4 (p : Int) h = h 34 (24 + p) := by
  show fX10_at 34 (((4 : Int) * 6) + (p : Int)) h = _
  rw [at_in (by omega) (by show _ < ((51 : Nat) : Int); omega), show (((4 : Int) * 6) + (p : Int)).toNat = (24 + p) by omega]
theorem sx8_4 {h : zH} {p : Nat} (hp : p < 6) {v : Int} : fX8_set 8 4 (p : Int) v h = zs h 34 (24 + p) v := by
  show fX10_put 34 (((4 : Int) * 6) + (p : Int)) v h = _
  rw [put_in (by omega) (by show _ < ((51 : Nat) : Int); omega), show (((4 : Int) * 6) + (p : Int)).toNat = (24 + p) by omega]
theorem ox8_5 {h : zH} {p : Nat} (hp : p < 6) : fX8_of 8 5 (p : Int) h = h 34 (30 + p) := by
  show fX10_at 34 (((5 : Int) * 6) + (p : Int)) h = _
  rw [at_in (by omega) (by show _ < ((51 : Nat) : Int); omega), show (((5 : Int) * 6) + (p : Int)).toNat = (30 + p) by omega]
theorem sx8_5 {h : zH} {p : Nat} (hp : p < 6) {v : Int} : fX8_set 8 5 (p : Int) v h = zs h 34 (30 + p) v := by
  show fX10_put 34 (((5 : Int) * 6) + (p : Int)) v h = _
  rw [put_in (by omega) (by show _ < ((51 : Nat) : Int); omega), show (((5 : Int) * 6) + (p : Int)).toNat = (30 + p) by omega]
theorem ox8_6 {h : zH} {p : Nat} (hp : p < 6) : fX8_of 8 6 (p : Int) h = h 34 (36 + p) := by
  show fX10_at 34 (((6 : Int) * 6) + (p : Int)) h = _
  rw [at_in (by omega) (by show _ < ((51 : Nat) : Int); omega), show (((6 : Int) * 6) + (p : Int)).toNat = (36 + p) by omega]
theorem sx8_6 {h : zH} {p : Nat} (hp : p < 6) {v : Int} : fX8_set 8 6 (p : Int) v h = zs h 34 (36 + p) v := by
  show fX10_put 34 (((6 : Int) * 6) + (p : Int)) v h = _
  rw [put_in (by omega) (by show _ < ((51 : Nat) : Int); omega), show (((6 : Int) * 6) + (p : Int)).toNat = (36 + p) by omega]
theorem ox8_7 {h : zH} {p : Nat} (hp : p < 6) : fX8_of 8 7 (p : Int) h = h 34 (42 + p) := by
  show fX10_at 34 (((7 : Int) * 6) + (p : Int)) h = _
  rw [at_in (by omega) (by show _ < ((51 : Nat) : Int); omega), show (((7 : Int) * 6) + (p : Int)).toNat = (42 + p) by omega]
theorem sx8_7 {h : zH} {p : Nat} (hp : p < 6) {v : Int} : fX8_set 8 7 (p : Int) v h = zs h 34 (42 + p) v := by
  show fX10_put 34 (((7 : Int) * 6) + (p : Int)) v h = _
  rw [put_in (by omega) (by show _ < ((51 : Nat) : Int); omega), show (((7 : Int) * 6) + (p : Int)).toNat = (42 + p) by omega]
theorem om_0 {g : zH} {p : Nat} (hp : p < 6) : fX11_of (p : Int) 0 g = some (g 69 (7 * p)) := by
  unfold fX11_of
  rw [show (7 * (p : Int)) + 0 = ((7 * p : Nat) : Int) by omega, zw_id (show _ from by omega), if_pos (by omega), Int.toNat_natCast]
theorem pm_0 {g : zH} {p : Nat} (hp : p < 6) {v : Int} : fX11_put_ (p : Int) 0 v g = some (zs g 69 (7 * p) v) := by
  unfold fX11_put_ zlet
  dsimp only
  rw [show (7 * (p : Int)) + 0 = ((7 * p : Nat) : Int) by omega, zw_id (show _ from by omega), if_pos (by omega), Int.toNat_natCast]
theorem om_1 {g : zH} {p : Nat} (hp : p < 6) : fX11_of (p : Int) 1 g = some (g 69 (7 * p + 1)) := by
  unfold fX11_of
  rw [show (7 * (p : Int)) + 1 = ((7 * p + 1 : Nat) : Int) by omega, zw_id (show _ from by omega), if_pos (by omega), Int.toNat_natCast]
theorem pm_1 {g : zH} {p : Nat} (hp : p < 6) {v : Int} : fX11_put_ (p : Int) 1 v g = some (zs g 69 (7 * p + 1) v) := by
  unfold fX11_put_ zlet
  dsimp only
  rw [show (7 * (p : Int)) + 1 = ((7 * p + 1 : Nat) : Int) by omega, zw_id (show _ from by omega), if_pos (by omega), Int.toNat_natCast]
theorem om_2 {g : zH} {p : Nat} (hp : p < 6) : fX11_of (p : Int) 2 g = some (g 69 (7 * p + 2)) := by
  unfold fX11_of
  rw [show (7 * (p : Int)) + 2 = ((7 * p + 2 : Nat) : Int) by omega, zw_id (show _ from by omega), if_pos (by omega), Int.toNat_natCast]
theorem pm_2 {g : zH} {p : Nat} (hp : p < 6) {v : Int} : fX11_put_ (p : Int) 2 v g = some (zs g 69 (7 * p + 2) v) := by
  unfold fX11_put_ zlet
  dsimp only
  rw [show (7 * (p : Int)) + 2 = ((7 * p + 2 : Nat) : Int) by omega, zw_id (show _ from by omega), if_pos (by omega), Int.toNat_natCast]
theorem om_3 {g : zH} {p : Nat} (hp : p < 6) : fX11_of (p : Int) 3 g = some (g 69 (7 * p + 3)) := by
  unfold fX11_of
  rw [show (7 * (p : Int)) + 3 = ((7 * p + 3 : Nat) : Int) by omega, zw_id (show _ from by omega), if_pos (by omega), Int.toNat_natCast]
theorem pm_3 {g : zH} {p : Nat} (hp : p < 6) {v : Int} : fX11_put_ (p : Int) 3 v g = some (zs g 69 (7 * p + 3) v) := by
  unfold fX11_put_ zlet
  dsimp only
  rw [show (7 * (p : Int)) + 3 = ((7 * p + 3 : Nat) : Int) by omega, zw_id (show _ from by omega), if_pos (by omega), Int.toNat_natCast]
theorem om_4 {g : zH} {p : Nat} (hp : p < 6) : fX11_of (p : Int) 4 g = some (g 69 (7 * p + 4)) := by
  unfold fX11_of
  rw [show (7 * (p : Int)) + 4 = ((7 * p + 4 : Nat) : Int) by omega, zw_id (show _ from by omega), if_pos (by omega), Int.toNat_natCast]
theorem pm_4 {g : zH} {p : Nat} (hp : p < 6) {v : Int} : fX11_put_ (p : Int) 4 v g = some (zs g 69 (7 * p + 4) v) := by
  unfold fX11_put_ zlet
  dsimp only
  rw [show (7 * (p : Int)) + 4 = ((7 * p + 4 : Nat) : Int) by omega, zw_id (show _ from by omega), if_pos (by omega), Int.toNat_natCast]
theorem om_5 {g : zH} {p : Nat} (hp : p < 6) : fX11_of (p : Int) 5 g = some (g 69 (7 * p + 5)) := by
  unfold fX11_of
  rw [show (7 * (p : Int)) + 5 = ((7 * p + 5 : Nat) : Int) by omega, zw_id (show _ from by omega), if_pos (by omega), Int.toNat_natCast]
theorem pm_5 {g : zH} {p : Nat} (hp : p < 6) {v : Int} : fX11_put_ (p : Int) 5 v g = some (zs g 69 (7 * p + 5) v) := by
  unfold fX11_put_ zlet
  dsimp only
  rw [show (7 * (p : Int)) + 5 = ((7 * p + 5 : Nat) : Int) by omega, zw_id (show _ from by omega), if_pos (by omega), Int.toNat_natCast]
theorem om_6 {g : zH} {p : Nat} (hp : p < 6) : fX11_of (p : Int) 6 g = some (g 69 (7 * p + 6)) := by
  unfold fX11_of
  rw [show (7 * (p : Int)) + 6 = ((7 * p + 6 : Nat) : Int) by omega, zw_id (show _ from by omega), if_pos (by omega), Int.toNat_natCast]
theorem pm_6 {g : zH} {p : Nat} (hp : p < 6) {v : Int} : fX11_put_ (p : Int) 6 v g = some (zs g 69 (7 * p + 6) v) := by
  unfold fX11_put_ zlet
  dsimp only
  rw [show (7 * (p : Int)) + 6 = ((7 * p + 6 : Nat) : Int) by omega, zw_id (show _ from by omega), if_pos (by omega), Int.toNat_natCast]
