/-! what a rule is worth, both -/
def OKe (e : zE) : Prop := (1 ≤ eN e ∧ 1 ≤ (eX e).length ∧ (eM e).length = (eX e).length) ∧ (∀ x, x ∈ eX e → ¬ zw x = zw (-59)) ∧ (∀ L, LB L → -1000000 ≤ eV e L ∧ eV e L ≤ 1000000) ∧ EX 32 e ∧ EX 36 e ∧ EM e
def OKb (e : zE) : Prop := OKe e ∧ ∀ L, LB L → eV e L = 0 ∨ eV e L = 1
theorem OKe_num {v : Int} (hv : 0 ≤ v ∧ v ≤ 9999) : OKe (eNum v) := by
  refine ⟨⟨Nat.le_refl 1, Nat.le_refl 1, rfl⟩, fun x hx => ?_, fun L hL => ?_, EX_num hv, EX_num hv, EM_num⟩
  · have : x = v := List.mem_singleton.mp hx
    rw [this, zw_id (show -2147483648 ≤ v ∧ v < 2147483648 by omega), show zw (-59) = -59 by decide]
    omega
  · show -1000000 ≤ v ∧ v ≤ 1000000
    omega
theorem OKe_let {k : Nat} (hk : k < 7) : OKe (eLet k) := by
  refine ⟨⟨Nat.le_refl 1, Nat.le_refl 1, rfl⟩, fun x hx => ?_, fun L hL => ?_, EX_let rfl hk, EX_let rfl hk, EM_let hk⟩
  · have : x = 10000 + (k : Int) := List.mem_singleton.mp hx
    rw [this, zw_id (show -2147483648 ≤ 10000 + (k : Int) ∧ 10000 + (k : Int) < 2147483648 by omega), show zw (-59) = -59 by decide]
    omega
  · show -1000000 ≤ L k ∧ L k ≤ 1000000
    have := hL k hk
    omega
theorem OKe_bin {s m : Int} (hs : opOK s m) {a c : zE} (A : OKe a) (C : OKe c) (hb : 10 ≤ m → OKb a ∧ OKb c) : OKe (eBin s m a c) ∧ (6 ≤ m → OKb (eBin s m a c)) := by
  obtain ⟨⟨a1, a2, a3⟩, a4, a5, a6, a7, a8⟩ := A
  obtain ⟨⟨c1, c2, c3⟩, c4, c5, c6, c7, c8⟩ := C
  have hv : ∀ L, LB L → opV m (eV a L) (eV c L) := fun L hL => ⟨a5 L hL, c5 L hL, fun h => ⟨(hb h).1.2 L hL, (hb h).2.2 L hL⟩⟩
  have ok : OKe (eBin s m a c) := by
    refine ⟨⟨?_, ?_, ?_⟩, fun x hx => ?_, fun L hL => (vop_b hs).1, EX_bin (by decide) hs a6 c6 a1 c1 hv, EX_bin (by decide) hs a7 c7 a1 c1 hv, EM_bin hs a8 c8 a1 c1 hv⟩
    · show 1 ≤ max (eN a) (eN c + 1)
      omega
    · show 1 ≤ (eX a ++ (eX c ++ [-s])).length
      rw [List.length_append]; omega
    · show (eM a ++ (eM c ++ [(m, 0)])).length = (eX a ++ (eX c ++ [-s])).length
      rw [List.length_append, List.length_append, List.length_append, List.length_append, a3, c3]; rfl
    · rcases List.mem_append.mp (show x ∈ eX a ++ (eX c ++ [-s]) from hx) with h | h
      · exact a4 x h
      · rcases List.mem_append.mp h with h | h
        · exact c4 x h
        · rw [List.mem_singleton.mp h]
          rcases hs with h | h | h | h | h | h | h | h | h <;> (obtain ⟨rfl, _⟩ := h) <;> decide
  exact ⟨ok, fun h6 => ⟨ok, fun L hL => (vop_b hs).2 h6⟩⟩
theorem OKb_not {a : zE} (A : OKb a) : OKb (eNot a) := by
  obtain ⟨⟨⟨a1, a2, a3⟩, a4, a5, a6, a7, a8⟩, hb⟩ := A
  have hv : ∀ L, LB L → eV (eNot a) L = 0 ∨ eV (eNot a) L = 1 := fun L hL => by
    show 1 - eV a L = 0 ∨ 1 - eV a L = 1
    have := hb L hL
    omega
  refine ⟨⟨⟨a1, ?_, ?_⟩, fun x hx => ?_, fun L hL => ?_, EX_not (by decide) a6 a1 hb, EX_not (by decide) a7 a1 hb, EM_not a8 a1⟩, hv⟩
  · show 1 ≤ (eX a ++ [-33]).length
    rw [List.length_append]; omega
  · show (eM a ++ [(9, 0)]).length = (eX a ++ [-33]).length
    rw [List.length_append, List.length_append, a3]; rfl
  · rcases List.mem_append.mp (show x ∈ eX a ++ [-33] from hx) with h | h
    · exact a4 x h
    · rw [List.mem_singleton.mp h]; decide
  · have := hv L hL
    omega
/-- a clause: whether it has a condition, the condition, the sum -/
abbrev rCl : Type := Bool × zE × zE
def clsX (c : rCl) : List Int := (if c.1 = true then eX c.2.1 ++ [-63] else []) ++ (eX c.2.2 ++ [-59])
def lawX : List rCl → List Int
  | [] => []
  | c :: cs => clsX c ++ lawX cs
def lawV (L : Nat → Int) : List rCl → Int
  | [] => 0
  | c :: cs => if c.1 = true ∧ eV c.2.1 L = 0 then lawV L cs else eV c.2.2 L
def OKc (c : rCl) : Prop := (c.1 = true → OKe c.2.1 ∧ eN c.2.1 ≤ 48) ∧ OKe c.2.2 ∧ eN c.2.2 ≤ 48
theorem OKe_EX {e : zE} (H : OKe e) {lr : Nat} (hl : lr = 32 ∨ lr = 36) : EX lr e := by
  rcases hl with rfl | rfl
  · exact H.2.2.2.1
  · exact H.2.2.2.2.1
theorem skipX {N lr k ρ sz : Nat} {L : Nat → Int} {h : zH} (hρ : ρ < 4) (hsz : sz ≤ 240) (V : VX lr ρ sz L h) (X : List Int) : ∀ i, i + X.length < sz → (∀ x, x ∈ X → ¬ zw x = zw (-59)) → sgm (h 24) (240 * ρ + i) (X ++ [-59]) → fX5_worth_c9 N lr (k + (X.length + 1)) 1 (i : Int) h = fX5_worth_c9 N lr k 0 ((i + (X.length + 1) : Nat) : Int) h := by
  have l24 : zln 24 = 960 := rfl
  have l25 : zln 25 = 4 := rfl
  have one : ∀ (m i : Nat) (p : Int), i < sz → h 24 (240 * ρ + i) = p → fX5_worth_c9 N lr (m + 1) 1 (i : Int) h = if zw p = zw (-59) then fX5_worth_c9 N lr m 0 ((i + 1 : Nat) : Int) h else fX5_worth_c9 N lr m 1 ((i + 1 : Nat) : Int) h := fun m i p hi hp => by
    show fX5_worth_c9b N lr (fX5_worth_c9 N lr m) 1 (i : Int) h = _
    unfold fX5_worth_c9b
    rw [V.1, at_in (by omega) (by omega), Int.toNat_natCast, V.2.1, zw_id (show -2147483648 ≤ (sz : Int) ∧ (sz : Int) < 2147483648 by omega), zw_id (show -2147483648 ≤ (i : Int) ∧ (i : Int) < 2147483648 by omega), if_neg (by omega), show ((ρ : Int) * 240) + (i : Int) = ((240 * ρ + i : Nat) : Int) by omega, at_in (by omega) (by omega), Int.toNat_natCast, hp, zlet_v, if_neg (show ¬ zw 1 = 0 by decide)]
    rfl
  induction X with
  | nil =>
    intro i hi hx G
    have hi : i + 0 < sz := hi
    have hp : h 24 (240 * ρ + i) = -59 := sgm_1 G
    show fX5_worth_c9 N lr (k + 1) 1 (i : Int) h = fX5_worth_c9 N lr k 0 ((i + 1 : Nat) : Int) h
    rw [one k i (-59) (by omega) hp, if_pos rfl]
  | cons x X ih =>
    intro i hi hx G
    have hi : i + (X.length + 1) < sz := hi
    have G : sgm (h 24) (240 * ρ + i) ([x] ++ (X ++ [-59])) := G
    have hp : h 24 (240 * ρ + i) = x := sgm_1 (sgm_l G)
    have := ih (i + 1) (by omega) (fun y hy => hx y (List.mem_cons_of_mem _ hy)) (sgm_r G)
    show fX5_worth_c9 N lr (k + (X.length + 1) + 1) 1 (i : Int) h = fX5_worth_c9 N lr k 0 ((i + (X.length + 1 + 1) : Nat) : Int) h
    rw [one _ i x (by omega) hp, if_neg (hx x (List.mem_cons_self ..)), this, show i + 1 + (X.length + 1) = i + (X.length + 1 + 1) by omega]
theorem lawRX {N lr ρ sz : Nat} (hlr : lr = 32 ∨ lr = 36) {L : Nat → Int} (hL : LB L) (hρ : ρ < 4) (hsz : sz ≤ 240) (cs : List rCl) : ∀ (i k : Nat) (h : zH), (∀ c, c ∈ cs → OKc c) → VX lr ρ sz L h → SX [] h → i + (lawX cs).length = sz → sgm (h 24) (240 * ρ + i) (lawX cs) → ∃ h', fX5_worth_c9 N lr (k + 1 + (lawX cs).length) 0 (i : Int) h = some (lawV L cs, h') ∧ FR [5, 26] h h' ∧ FS 5 [5] h h' := by
  have l24 : zln 24 = 960 := rfl
  have l25 : zln 25 = 4 := rfl
  have l26 : zln 26 = 48 := rfl
  have hlr2 : lr ≠ 5 ∧ lr ≠ 26 := by omega
  -- the end of a sum
  have fin : ∀ (m i : Nat) (v : Int) (h : zH), VX lr ρ sz L h → SX ([] ++ [v]) h → i < sz → h 24 (240 * ρ + i) = -59 → fX5_worth_c9 N lr (m + 1) 0 (i : Int) h = some (v, h) := fun m i v h V S hi hp => by
    obtain ⟨s1, s2, _⟩ := SX_last S
    have s2 : h 26 0 = v := s2
    show fX5_worth_c9b N lr (fX5_worth_c9 N lr m) 0 (i : Int) h = _
    unfold fX5_worth_c9b
    rw [V.1, at_in (by omega) (by omega), Int.toNat_natCast, V.2.1, zw_id (show -2147483648 ≤ (sz : Int) ∧ (sz : Int) < 2147483648 by omega), zw_id (show -2147483648 ≤ (i : Int) ∧ (i : Int) < 2147483648 by omega), if_neg (by omega), show ((ρ : Int) * 240) + (i : Int) = ((240 * ρ + i : Nat) : Int) by omega, at_in (by omega) (by omega), Int.toNat_natCast, hp, zlet_v, if_pos zw_0, if_pos rfl, s1, show ((([] : List Int).length : Nat) : Int) + 1 - 1 = 0 from rfl, at_in (by omega) (by omega)]
    rw [show Int.toNat 0 = 0 from rfl, s2]
  -- the end of a condition
  have tst : ∀ (m i : Nat) (v : Int) (h : zH), -1000000 ≤ v ∧ v ≤ 1000000 → VX lr ρ sz L h → SX ([] ++ [v]) h → i < sz → h 24 (240 * ρ + i) = -63 → fX5_worth_c9 N lr (m + 1) 0 (i : Int) h = if v = 0 then fX5_worth_c9 N lr m 1 ((i + 1 : Nat) : Int) (zs h 5 5 0) else fX5_worth_c9 N lr m 0 ((i + 1 : Nat) : Int) (zs h 5 5 0) := fun m i v h hv V S hi hp => by
    obtain ⟨s1, s2, _⟩ := SX_last S
    have s2 : h 26 0 = v := s2
    show fX5_worth_c9b N lr (fX5_worth_c9 N lr m) 0 (i : Int) h = _
    unfold fX5_worth_c9b
    rw [V.1, at_in (by omega) (by omega), Int.toNat_natCast, V.2.1, zw_id (show -2147483648 ≤ (sz : Int) ∧ (sz : Int) < 2147483648 by omega), zw_id (show -2147483648 ≤ (i : Int) ∧ (i : Int) < 2147483648 by omega), if_neg (by omega), show ((ρ : Int) * 240) + (i : Int) = ((240 * ρ + i : Nat) : Int) by omega, at_in (by omega) (by omega), Int.toNat_natCast, hp, zlet_v, if_pos zw_0, if_neg (by decide), if_pos rfl, s1, show ((([] : List Int).length : Nat) : Int) + 1 - 1 = 0 from rfl, zlet_v, zs_at, at_in (by omega) (by omega)]
    rw [show Int.toNat 0 = 0 from rfl, zs_row_ne (show (26 : Nat) ≠ 5 by decide), s2, zw_id (show -2147483648 ≤ v ∧ v < 2147483648 by omega)]
    rfl
  induction cs with
  | nil =>
    intro i k h hc V S hi G
    have hi : i + 0 = sz := hi
    refine ⟨h, ?_, FR_rf, FS_rf⟩
    show fX5_worth_c9b N lr (fX5_worth_c9 N lr k) 0 (i : Int) h = _
    unfold fX5_worth_c9b
    rw [V.1, at_in (by omega) (by omega), Int.toNat_natCast, V.2.1, zw_id (show -2147483648 ≤ (sz : Int) ∧ (sz : Int) < 2147483648 by omega), zw_id (show -2147483648 ≤ (i : Int) ∧ (i : Int) < 2147483648 by omega), if_pos (by omega)]
    rfl
  | cons c cs ih =>
    intro i k h hc V S hi G
    obtain ⟨o1, o2, o3⟩ := hc c (List.mem_cons_self ..)
    have hc' : ∀ d, d ∈ cs → OKc d := fun d hd => hc d (List.mem_cons_of_mem _ hd)
    have hi : i + (clsX c ++ lawX cs).length = sz := hi
    have G : sgm (h 24) (240 * ρ + i) (clsX c ++ lawX cs) := G
    show ∃ h', fX5_worth_c9 N lr (k + 1 + (clsX c ++ lawX cs).length) 0 (i : Int) h = _ ∧ _
    -- the sum of a clause that is asked for
    have sm : ∀ (i : Nat) (h1 : zH) (m : Nat), FR [5, 26] h h1 → FS 5 [5] h h1 → SX [] h1 → i + ((eX c.2.2).length + 1) ≤ sz → sgm (h 24) (240 * ρ + i) (eX c.2.2 ++ [-59]) → ∃ h', fX5_worth_c9 N lr (m + ((eX c.2.2).length + 1)) 0 (i : Int) h1 = some (eV c.2.2 L, h') ∧ FR [5, 26] h h' ∧ FS 5 [5] h h' := fun i h1 m F1 G1 S1 hi1 g1 => by
      have V1 := VX_to V hlr2 F1 G1
      have g1' : sgm (h1 24) (240 * ρ + i) (eX c.2.2 ++ [-59]) := by rw [F1 24 (by decide)]; exact g1
      obtain ⟨h2, b1, b2, b3, b4⟩ := OKe_EX o2 hlr N (m + 1) ρ sz i L [] h1 hL hρ hsz V1 S1 (by show 0 + eN c.2.2 ≤ 48; omega) (by omega) (sgm_l g1')
      have hp : h2 24 (240 * ρ + (i + (eX c.2.2).length)) = -59 := by
        rw [b2 24 (by decide), ← Nat.add_assoc]; exact sgm_1 (sgm_r g1')
      refine ⟨h2, ?_, FR_tr F1 b2, FS_tr G1 b3⟩
      rw [show m + ((eX c.2.2).length + 1) = m + 1 + (eX c.2.2).length by omega, b1]
      exact fin _ _ _ h2 (VX_to V1 hlr2 b2 b3) b4 (by omega) hp
    by_cases ct : c.1 = true
    · obtain ⟨t1, t2⟩ := o1 ct
      have eX1 : clsX c = (eX c.2.1 ++ [-63]) ++ (eX c.2.2 ++ [-59]) := by unfold clsX; rw [if_pos ct]
      have len : (clsX c).length = (eX c.2.1).length + 1 + ((eX c.2.2).length + 1) := by
        rw [eX1, List.length_append, List.length_append, List.length_append]; rfl
      rw [List.length_append, len] at hi
      rw [List.length_append, len]
      have Gc := sgm_l G
      have Gr := sgm_r G
      rw [eX1] at Gc
      have Ga := sgm_l Gc
      have Gb := sgm_r Gc
      obtain ⟨h1, a1, a2, a3, a4⟩ := OKe_EX t1 hlr N (k + 1 + (lawX cs).length + ((eX c.2.2).length + 1) + 1) ρ sz i L [] h hL hρ hsz V S (by show 0 + eN c.2.1 ≤ 48; omega) (by omega) (sgm_l Ga)
      have V1 := VX_to V hlr2 a2 a3
      have hp : h1 24 (240 * ρ + (i + (eX c.2.1).length)) = -63 := by
        rw [a2 24 (by decide), ← Nat.add_assoc]; exact sgm_1 (sgm_r Ga)
      rw [show k + 1 + ((eX c.2.1).length + 1 + ((eX c.2.2).length + 1) + (lawX cs).length) = k + 1 + (lawX cs).length + ((eX c.2.2).length + 1) + 1 + (eX c.2.1).length by omega, a1, tst _ _ _ h1 (t1.2.2.1 L hL) V1 a4 (by omega) hp]
      have F2 : FR [5, 26] h (zs h1 5 5 0) := FR_tr a2 (fun b hb => zs_row_ne (fun e => hb (by rw [e]; decide)))
      have G2 : FS 5 [5] h (zs h1 5 5 0) := FS_tr a3 (fun q hq => zs_ne (fun e => hq (by rw [e]; decide)))
      have S2 : SX [] (zs h1 5 5 0) := SX_pop a4
      have l63 : (eX c.2.1 ++ [-63]).length = (eX c.2.1).length + 1 := by rw [List.length_append]; rfl
      rw [l63] at Gb
      by_cases c0 : eV c.2.1 L = 0
      · have eL : lawV L (c :: cs) = lawV L cs := by
          show (if c.1 = true ∧ eV c.2.1 L = 0 then lawV L cs else eV c.2.2 L) = _
          rw [if_pos ⟨ct, c0⟩]
        rw [if_pos c0, eL]
        have g3 : sgm (zs h1 5 5 0 24) (240 * ρ + (i + (eX c.2.1).length + 1)) (eX c.2.2 ++ [-59]) := by
          rw [F2 24 (by decide), show 240 * ρ + (i + (eX c.2.1).length + 1) = 240 * ρ + i + ((eX c.2.1).length + 1) by omega]; exact Gb
        rw [skipX hρ hsz (VX_to V hlr2 F2 G2) (eX c.2.2) _ (by omega) o2.2.1 g3]
        have g4 : sgm (zs h1 5 5 0 24) (240 * ρ + (i + (eX c.2.1).length + 1 + ((eX c.2.2).length + 1))) (lawX cs) := by
          rw [len] at Gr
          rw [F2 24 (by decide), show 240 * ρ + (i + (eX c.2.1).length + 1 + ((eX c.2.2).length + 1)) = 240 * ρ + i + ((eX c.2.1).length + 1 + ((eX c.2.2).length + 1)) by omega]; exact Gr
        obtain ⟨h', r1, r2, r3⟩ := ih _ k _ hc' (VX_to V hlr2 F2 G2) S2 (by omega) g4
        exact ⟨h', r1, FR_tr F2 r2, FS_tr G2 r3⟩
      · have eL : lawV L (c :: cs) = eV c.2.2 L := by
          show (if c.1 = true ∧ eV c.2.1 L = 0 then lawV L cs else eV c.2.2 L) = _
          rw [if_neg (fun h => c0 h.2)]
        rw [if_neg c0, eL]
        exact sm _ _ _ F2 G2 S2 (by omega) (by rw [show 240 * ρ + (i + (eX c.2.1).length + 1) = 240 * ρ + i + ((eX c.2.1).length + 1) by omega]; exact Gb)
    · have eX1 : clsX c = eX c.2.2 ++ [-59] := by unfold clsX; rw [if_neg ct]; rfl
      have len : (clsX c).length = (eX c.2.2).length + 1 := by rw [eX1, List.length_append]; rfl
      rw [List.length_append, len] at hi
      rw [List.length_append, len]
      have Gc := sgm_l G
      rw [eX1] at Gc
      have eL : lawV L (c :: cs) = eV c.2.2 L := by
        show (if c.1 = true ∧ eV c.2.1 L = 0 then lawV L cs else eV c.2.2 L) = _
        rw [if_neg (fun h => ct h.1)]
      rw [eL, show k + 1 + ((eX c.2.2).length + 1 + (lawX cs).length) = k + 1 + (lawX cs).length + ((eX c.2.2).length + 1) by omega]
      exact sm i h _ FR_rf FS_rf S (by omega) Gc
theorem worthX {N lr ρ : Nat} (hN : 300 ≤ N) (hlr : lr = 32 ∨ lr = 36) {L : Nat → Int} (hL : LB L) (hρ : ρ < 4) {cs : List rCl} (hc : ∀ c, c ∈ cs → OKc c) (hsz : (lawX cs).length ≤ 240) {h : zH} (h1 : h 5 1 = (ρ : Int)) (h25 : h 25 ρ = ((lawX cs).length : Int)) (hl : ∀ j, j < 7 → h lr j = L j) (G : sgm (h 24) (240 * ρ) (lawX cs)) : ∃ h', fX5_worth N lr h = some (lawV L cs, h') ∧ FR [5, 26] h h' ∧ FS 5 [5] h h' := by
  unfold fX5_worth
  rw [zlet_v]
  have F2 : FR [5, 26] h (zs h 5 5 0) := fun b hb => zs_row_ne (fun e => hb (by rw [e]; decide))
  have G2 : FS 5 [5] h (zs h 5 5 0) := fun q hq => zs_ne (fun e => hq (by rw [e]; decide))
  have V : VX lr ρ (lawX cs).length L h := ⟨h1, h25, hl⟩
  obtain ⟨h', r1, r2, r3⟩ := lawRX (N := N) hlr hL hρ hsz cs 0 (N - 1 - (lawX cs).length) (zs h 5 5 0) hc (VX_to V (by omega) F2 G2) ⟨zs_at, fun j hj => absurd (show j < 0 from hj) (by omega)⟩ (Nat.zero_add _) (by rw [Nat.add_zero, F2 24 (by decide)]; exact G)
  rw [show N - 1 - (lawX cs).length + 1 + (lawX cs).length = N by omega] at r1
  exact ⟨h', r1, FR_tr F2 r2, FS_tr G2 r3⟩
