/-! whether a row rests, the class's; all that rest -/
def rstF (np : Nat) (t : Nat → Nat) (ch : Nat → Int) (p f : Nat) : Bool := (List.range f).all (fun j => !betB np t ch p (fG (fmk t np) j))
theorem rstF_s {np : Nat} {t : Nat → Nat} {ch : Nat → Int} {p f : Nat} : rstF np t ch p (f + 1) = (rstF np t ch p f && !betB np t ch p (fG (fmk t np) f)) := all_s _ _
theorem rstF_mono {np : Nat} {t : Nat → Nat} {ch : Nat → Int} {p f k : Nat} (h : rstF np t ch p k = true) (hf : f ≤ k) : rstF np t ch p f = true := by
  unfold rstF at *
  rw [List.all_eq_true] at *
  intro x hx
  exact h x (List.mem_range.mpr (Nat.lt_of_lt_of_le (List.mem_range.mp hx) hf))
theorem rstF_P {np nd nr : Nat} {t : Nat → Nat} (V : HV np nd nr t) {ch : Nat → Int} {p : Nat} : rstF np t ch p (fK (fmk t np)) = rstP np t ch p nr := by
  rw [Bool.eq_iff_iff]
  unfold rstF rstP
  rw [List.all_eq_true, List.all_eq_true]
  have v1 := V.1
  constructor
  · intro h v hv
    have hv := List.mem_range.mp hv
    by_cases c : (fmk t np).testBit v = true
    · obtain ⟨j, hj, e⟩ := List.mem_iff_getElem.mp (show v ∈ fl (fmk t np).testBit 8 from List.mem_filter.mpr ⟨List.mem_range.mpr (by omega), c⟩)
      have hh := h j (List.mem_range.mpr hj)
      rw [show fG (fmk t np) j = v by
        show (fl (fmk t np).testBit 8).getD j 0 = v
        rw [List.getD_eq_getElem?_getD, List.getElem?_eq_getElem hj, e]; rfl] at hh
      rw [c, Bool.true_and]; exact hh
    · rw [Bool.eq_false_iff.mpr c]; rfl
  · intro h j hj
    have hj := List.mem_range.mp hj
    have hh := h (fG (fmk t np) j) (List.mem_range.mpr (fG_nr V hj))
    rw [show (fmk t np).testBit (fG (fmk t np) j) = true from (fl_mem hj).2, Bool.true_and] at hh
    exact hh
theorem HX_44 {np nd nr : Nat} {t : Nat → Nat} {h g : zH} (H : HX np nd nr t h) {L : List Nat} (F : FR L h g) (hL : ∀ b, b ∈ [16, 17, 18] → b ∉ L) : HX np nd nr t g := HX_to H (F 16 (hL 16 (by decide))) (F 17 (hL 17 (by decide))) (F 18 (hL 18 (by decide)))
theorem inRX {np nd nr : Nat} {t : Nat → Nat} {h : zH} (V : HV np nd nr t) (X : HX np nd nr t h) {N : Nat} (hN : 300 ≤ N) (h2 : h 12 2 = (fK (fmk t np) : Int)) (h45 : ∀ j, j < fK (fmk t np) → h 45 j = (fG (fmk t np) j : Int)) {ch : Nat → Int} (hch : ∀ o, o < np → 0 ≤ ch o ∧ ch o < 1000) {p : Nat} (hp : p < np) (a0 : ∀ q, q < np → h 44 q = ch q) (K2 : Int → zH → Option (Int × zH)) : ∃ g', FR [44] h g' ∧ (∀ q, q < np → g' 44 q = ch q) ∧ fX6_isAtRest_c37 N 2 K2 N (p : Int) (ch p) (por np t ch p : Int) 0 0 h = if rstP np t ch p nr = true then K2 ((p : Int) + 1) g' else some (0, g') := by
  have vv := V.1
  have k8 : fK (fmk t np) ≤ 8 := fl_len (P := (fmk t np).testBit) 8
  refine zloopq (F := fun m f (s : Bool × zH) => fX6_isAtRest_c37 N 2 K2 m (p : Int) (ch p) (por np t ch p : Int) (bI (!s.1)) f s.2) (n := fK (fmk t np)) (s := (true, h)) (fun f s => s.1 = rstF np t ch p f ∧ FR [44] h s.2 ∧ ∀ q, q < np → q ≠ p → s.2 44 q = ch q) (fun r => ∃ g', FR [44] h g' ∧ (∀ q, q < np → g' 44 q = ch q) ∧ r = if rstP np t ch p nr = true then K2 ((p : Int) + 1) g' else some (0, g')) (fun m f s hf hI => ?_) (fun m s hI => ?_) (show fK (fmk t np) < N by omega) ⟨rfl, FR_rf, fun q hq _ => a0 q hq⟩
  · obtain ⟨a, gg⟩ := s
    obtain ⟨ha, hF, hq⟩ := hI
    have ha : a = rstF np t ch p f := ha
    have hF : FR [44] h gg := hF
    have hq : ∀ q, q < np → q ≠ p → gg 44 q = ch q := hq
    have g2 : gg 12 2 = (fK (fmk t np) : Int) := by rw [hF 12 (by decide)]; exact h2
    have g45 : fX10_at 45 (f : Int) gg = (fG (fmk t np) f : Int) := by
      rw [at_in (by omega) (by show _ < ((8 : Nat) : Int); omega), Int.toNat_natCast, hF 45 (by decide)]; exact h45 f hf
    by_cases d : a = true
    · left
      show ∃ s', fX6_isAtRest_c37b N 2 K2 (fX6_isAtRest_c37 N 2 K2 m) (p : Int) (ch p) (por np t ch p : Int) (bI (!a)) (f : Int) gg = _ ∧ _
      unfold fX6_isAtRest_c37b
      have F5 : FR [44] h (zs gg 44 p (fG (fmk t np) f : Int)) := FR_zs hF (by decide)
      have gn := fG_nr V hf
      rw [g2, zw_n9 (show fK (fmk t np) < 1000000000 by omega), zw_n9 (show f < 1000000000 by omega), if_neg (by omega), if_pos (bI_0.mpr (by rw [d]; rfl)), g45, put44 (by omega), zlet_v, porX V (HX_44 X F5 (by decide)) (o1 := 44) rfl (ch := fun q => if q = p then (fG (fmk t np) f : Int) else ch q) (fun o ho => ?_) (by omega) hp, zb_some]
      · have pl := por_le V (ch := ch) hp
        have pl2 := por_le V (ch := fun q => if q = p then (fG (fmk t np) f : Int) else ch q) hp
        rw [zw_n9 (by omega), zw_n9 (by omega)]
        refine ⟨(rstF np t ch p (f + 1), zs gg 44 p (fG (fmk t np) f : Int)), ?_, rfl, F5, fun q hq1 hq2 => by show zs gg 44 p _ 44 q = _; rw [zs_ne hq2]; exact hq q hq1 hq2⟩
        rw [rstF_s, ← ha, d, Bool.true_and, Bool.not_not]
        unfold betB
        by_cases e : por np t ch p < por np t (fun q => if q = p then (fG (fmk t np) f : Int) else ch q) p
        · rw [if_neg (by omega), decide_eq_true e]; rfl
        · rw [if_pos (by omega), decide_eq_false e]; rfl
      · by_cases e : o = p
        · rw [e, zs_at]
          show (fG (fmk t np) f : Int) = (if p = p then (fG (fmk t np) f : Int) else ch p) ∧ -1 ≤ (if p = p then (fG (fmk t np) f : Int) else ch p) ∧ (if p = p then (fG (fmk t np) f : Int) else ch p) < 1000
          rw [if_pos rfl]; omega
        · have := hch o ho
          rw [zs_ne e, hq o ho e]
          show ch o = (if o = p then (fG (fmk t np) f : Int) else ch o) ∧ -1 ≤ (if o = p then (fG (fmk t np) f : Int) else ch o) ∧ (if o = p then (fG (fmk t np) f : Int) else ch o) < 1000
          rw [if_neg e]; omega
    · have d' : a = false := by cases a <;> simp_all
      right
      refine ⟨zs gg 44 p (ch p), FR_zs hF (by decide), fun q hq1 => ?_, ?_⟩
      · by_cases e : q = p
        · rw [e, zs_at]
        · rw [zs_ne e]; exact hq q hq1 e
      · show fX6_isAtRest_c37b N 2 K2 (fX6_isAtRest_c37 N 2 K2 m) (p : Int) (ch p) (por np t ch p : Int) (bI (!a)) (f : Int) gg = _
        unfold fX6_isAtRest_c37b
        have n0 : ¬ zw (bI (!a)) = 0 := by rw [d']; decide
        rw [g2, zw_n9 (show fK (fmk t np) < 1000000000 by omega), zw_n9 (show f < 1000000000 by omega), if_neg (by omega), if_neg n0, put44 (by omega), zlet_v, if_neg n0, if_neg]
        intro hh
        rw [← rstF_P V] at hh
        have := rstF_mono hh (Nat.le_of_lt hf)
        rw [← ha, d'] at this
        cases this
  · obtain ⟨a, gg⟩ := s
    obtain ⟨ha, hF, hq⟩ := hI
    have ha : a = rstF np t ch p (fK (fmk t np)) := ha
    have hF : FR [44] h gg := hF
    have hq : ∀ q, q < np → q ≠ p → gg 44 q = ch q := hq
    have g2 : gg 12 2 = (fK (fmk t np) : Int) := by rw [hF 12 (by decide)]; exact h2
    refine ⟨zs gg 44 p (ch p), FR_zs hF (by decide), fun q hq1 => ?_, ?_⟩
    · by_cases e : q = p
      · rw [e, zs_at]
      · rw [zs_ne e]; exact hq q hq1 e
    · show fX6_isAtRest_c37b N 2 K2 (fX6_isAtRest_c37 N 2 K2 m) (p : Int) (ch p) (por np t ch p : Int) (bI (!a)) (fK (fmk t np) : Int) gg = _
      unfold fX6_isAtRest_c37b
      rw [g2, if_pos (Int.le_refl _), put44 (by omega), zlet_v, ← rstF_P V, ← ha]
      by_cases d : a = true
      · rw [if_pos (bI_0.mpr (by rw [d]; rfl)), if_pos d]
      · have d' : a = false := by cases a <;> simp_all
        rw [if_neg (show ¬ zw (bI (!a)) = 0 by rw [d']; decide), if_neg d]
theorem isRX {np nd nr : Nat} {t : Nat → Nat} {h : zH} (V : HV np nd nr t) (X : HX np nd nr t h) {N : Nat} (hN : 300 ≤ N) (h2 : h 12 2 = (fK (fmk t np) : Int)) (h45 : ∀ j, j < fK (fmk t np) → h 45 j = (fG (fmk t np) j : Int)) {ch : Nat → Int} (hch : ∀ o, o < np → 0 ≤ ch o ∧ ch o < 1000) (a0 : ∀ q, q < np → h 44 q = ch q) : ∃ g', FR [44] h g' ∧ fX6_isAtRest N 2 h = some (if rstB np nr t ch = true then 1 else 0, g') := by
  have vv := V.1
  rw [rstB_A]
  refine zloopq (F := fun m p (s : zH) => fX6_isAtRest_c2 N 2 m p s) (n := np) (s := h) (fun p s => rstA np nr t ch p = true ∧ FR [44] h s ∧ ∀ q, q < np → s 44 q = ch q) (fun r => ∃ g', FR [44] h g' ∧ r = some (if rstA np nr t ch np = true then 1 else 0, g')) (fun m p s hp hI => ?_) (fun m s hI => ?_) (show np < N by omega) ⟨rfl, FR_rf, a0⟩
  · obtain ⟨h1, hF, hq⟩ := hI
    have X' := HX_44 X hF (by decide)
    obtain ⟨g', e1, e2, e3⟩ := inRX V X' hN (by rw [hF 12 (by decide)]; exact h2) (fun j hj => by rw [hF 45 (by decide)]; exact h45 j hj) hch hp hq (fX6_isAtRest_c2 N 2 m)
    have hcp := hch p hp
    have E : fX6_isAtRest_c2 N 2 (m + 1) (p : Int) s = if rstP np t ch p nr = true then fX6_isAtRest_c2 N 2 m ((p : Int) + 1) g' else some (0, g') := by
      show fX6_isAtRest_c2b N 2 (fX6_isAtRest_c2 N 2 m) (p : Int) s = _
      unfold fX6_isAtRest_c2b
      rw [xm1 X', zw_n9 (show np < 1000000000 by omega), zw_n9 (show p < 1000000000 by omega), if_neg (by omega), at_in (by omega) (by show _ < ((6 : Nat) : Int); omega), Int.toNat_natCast, hq p hp, zlet_v, porX V X' (o1 := 44) rfl (ch := ch) (fun o ho => ⟨hq o ho, by have := hch o ho; omega⟩) (by omega) hp, zb_some, e3]
    by_cases c : rstP np t ch p nr = true
    · left
      refine ⟨g', ?_, ?_, FR_tr hF e1, e2⟩
      · show fX6_isAtRest_c2 N 2 (m + 1) (p : Int) s = _
        rw [E, if_pos c]; rfl
      · rw [rstA_s, h1, c]; rfl
    · right
      refine ⟨g', FR_tr hF e1, ?_⟩
      show fX6_isAtRest_c2 N 2 (m + 1) (p : Int) s = _
      rw [E, if_neg c, if_neg]
      intro h
      apply c
      exact List.all_eq_true.mp h p (List.mem_range.mpr hp)
  · obtain ⟨h1, hF, hq⟩ := hI
    have X' := HX_44 X hF (by decide)
    refine ⟨s, hF, ?_⟩
    show fX6_isAtRest_c2b N 2 (fX6_isAtRest_c2 N 2 m) (np : Int) s = _
    unfold fX6_isAtRest_c2b
    rw [xm1 X', if_pos (Int.le_refl _), if_pos h1]
