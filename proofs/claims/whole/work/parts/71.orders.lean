/-! orders: their steps, run, perform; ahead -/
def OX (no : Nat) (ol : Nat → Nat) (sp : Nat → Int) (h : zH) : Prop := h 6 0 = (no : Int) ∧ ∀ o, o < no → h 28 o = (ol o : Int) ∧ ∀ j, j < 3 * ol o → h 27 (48 * o + j) = sp (48 * o + j)
def OMo (no : Nat) (ol : Nat → Nat) (sp : Nat → Int) (g : zH) : Prop := g 14 33 = (no : Int) ∧ ∀ o, o < no → g 68 o = (ol o : Int) ∧ ∀ j, j < 3 * ol o → g 67 (48 * o + j) = sp (48 * o + j)
def OV (no : Nat) (ol : Nat → Nat) (sp : Nat → Int) : Prop := no ≤ 4 ∧ ∀ o, o < no → ol o ≤ 16 ∧ ∀ i, i < ol o → 0 ≤ sp (48 * o + 3 * i) ∧ sp (48 * o + 3 * i) ≤ 2 ∧ -1 ≤ sp (48 * o + 3 * i + 1) ∧ sp (48 * o + 3 * i + 1) ≤ 9 ∧ -1 ≤ sp (48 * o + 3 * i + 2) ∧ sp (48 * o + 3 * i + 2) ≤ 9
theorem OX_to {no : Nat} {ol : Nat → Nat} {sp : Nat → Int} {h h' : zH} (H : OX no ol sp h) (e6 : h' 6 0 = h 6 0) (e27 : h' 27 = h 27) (e28 : h' 28 = h 28) : OX no ol sp h' := by
  unfold OX at *; rw [e6, e27, e28]; exact H
theorem OM_to {no : Nat} {ol : Nat → Nat} {sp : Nat → Int} {h h' : zH} (H : OMo no ol sp h) (e6 : h' 14 33 = h 14 33) (e27 : h' 67 = h 67) (e28 : h' 68 = h 68) : OMo no ol sp h' := by
  unfold OMo at *; rw [e6, e27, e28]; exact H
theorem hasO {no : Nat} {ol : Nat → Nat} {sp : Nat → Int} {h : zH} (OO : OV no ol sp) (H : OX no ol sp h) {x : Int} (hx : zw x = x) : fX2_has x h = if 0 ≤ x ∧ x < no then 1 else 0 := by
  have := OO.1
  unfold fX2_has
  rw [H.1, hx, zw_id (show -2147483648 ≤ (no : Int) ∧ (no : Int) < 2147483648 by omega)]
  by_cases h1 : x < 0
  · rw [if_pos h1, if_neg (by omega)]
  · rw [if_neg h1]
    by_cases h2 : (no : Int) ≤ x
    · rw [if_pos h2, if_neg (by omega)]
    · rw [if_neg h2, if_pos (by omega)]
theorem lenX {no : Nat} {ol : Nat → Nat} {sp : Nat → Int} {h : zH} (OO : OV no ol sp) (H : OX no ol sp h) {o : Nat} (ho : o < no) : fX2_length (o : Int) h = (ol o : Int) := by
  have := OO.1
  unfold fX2_length
  rw [hasO OO H (zw_id (by omega)), zq, if_pos (by omega), at_in (by omega) (by show (o : Int) < ((4 : Nat) : Int); omega), Int.toNat_natCast]
  exact (H.2 o ho).1
theorem partX {no : Nat} {ol : Nat → Nat} {sp : Nat → Int} {h : zH} (OO : OV no ol sp) (H : OX no ol sp h) {o i c : Nat} (ho : o < no) (hi : i < ol o) (hc : c < 3) : fX2_part (o : Int) (i : Int) (c : Int) h = sp (48 * o + 3 * i + c) := by
  have h4 := OO.1
  have hl := (OO.2 o ho).1
  unfold fX2_part
  rw [lenX OO H ho, zw_id (show -2147483648 ≤ (i : Int) ∧ (i : Int) < 2147483648 by omega), zw_id (show -2147483648 ≤ (ol o : Int) ∧ (ol o : Int) < 2147483648 by omega), zw_id (show -2147483648 ≤ (c : Int) ∧ (c : Int) < 2147483648 by omega), show zw 3 = 3 by decide, if_neg (by omega), if_neg (by omega), if_neg (by omega), if_pos (by omega), at_in (by omega) (by show _ < ((192 : Nat) : Int); omega)]
  have := (H.2 o ho).2 (3 * i + c) (by omega)
  rw [show (((o : Int) * 48) + ((i : Int) * 3) + (c : Int)).toNat = 48 * o + (3 * i + c) by omega, this, show 48 * o + (3 * i + c) = 48 * o + 3 * i + c by omega]
theorem isO {no : Nat} {ol : Nat → Nat} {sp : Nat → Int} {g : zH} (OO : OV no ol sp) (H : OMo no ol sp g) {x : Int} (hx : zw x = x) : fX11_isOrders x g = if 0 ≤ x ∧ x < no then 1 else 0 := by
  have := OO.1
  unfold fX11_isOrders
  rw [H.1, in_eq hx zw_0 (zw_id (by omega))]
  by_cases h : 0 ≤ x ∧ x < no
  · rw [if_pos h, if_pos (by omega)]
  · rw [if_neg h, if_neg (by omega)]
theorem step_both {no : Nat} {ol : Nat → Nat} {sp : Nat → Int} {h g : zH} (OO : OV no ol sp) (H : OX no ol sp h) (M : OMo no ol sp g) {x y z : Int} (hx : zw x = x) (hy : zw y = y) (hz : zw z = z) : fX11_step x y z g = some (fX10_step x y z h) := by
  have h4 := OO.1
  unfold fX11_step fX10_step
  rw [isO OO M hx, zq, hx]
  by_cases h1 : 0 ≤ x ∧ x < no
  · rw [if_pos h1, if_pos (by omega)]
    obtain ⟨o, rfl⟩ := Int.eq_ofNat_of_zero_le h1.1
    have ho : o < no := by omega
    have hl := (OO.2 o ho).1
    rw [Int.toNat_natCast, (M.2 o ho).1, in_eq hy zw_0 (zw_id (by omega)), in_eq hz zw_0 zw_2, zq, zq]
    by_cases h2 : 0 ≤ y ∧ y < ol o
    · rw [if_pos (show 0 ≤ y ∧ y ≤ (ol o : Int) - 1 by omega)]
      obtain ⟨i, rfl⟩ := Int.eq_ofNat_of_zero_le h2.1
      have hi : i < ol o := by omega
      by_cases h3 : 0 ≤ z ∧ z ≤ 2
      · rw [if_pos h3]
        obtain ⟨c, rfl⟩ := Int.eq_ofNat_of_zero_le h3.1
        rw [partX OO H ho hi (by omega), show 3 * (16 * (o : Int) + (i : Int)) + (c : Int) = ((48 * o + (3 * i + c) : Nat) : Int) by omega, zw_id (show -2147483648 ≤ ((48 * o + (3 * i + c) : Nat) : Int) ∧ ((48 * o + (3 * i + c) : Nat) : Int) < 2147483648 by omega), if_pos (by omega), Int.toNat_natCast, (M.2 o ho).2 (3 * i + c) (by omega), show 48 * o + (3 * i + c) = 48 * o + 3 * i + c by omega]
      · rw [if_neg h3]
        unfold fX2_part
        rw [lenX OO H ho, zw_id (show -2147483648 ≤ (i : Int) ∧ (i : Int) < 2147483648 by omega), zw_id (show -2147483648 ≤ (ol o : Int) ∧ (ol o : Int) < 2147483648 by omega), hz, show zw 3 = 3 by decide, if_neg (by omega), if_neg (by omega)]
        by_cases h4 : z < 0
        · rw [if_pos h4]
        · rw [if_neg h4, if_neg (by omega)]
    · rw [if_neg (show ¬ (0 ≤ y ∧ y ≤ (ol o : Int) - 1) by omega)]
      unfold fX2_part
      rw [lenX OO H ho, hy, zw_id (show -2147483648 ≤ (ol o : Int) ∧ (ol o : Int) < 2147483648 by omega)]
      by_cases h4 : y < 0
      · rw [if_pos h4]
      · rw [if_neg h4, if_pos (by omega)]
  · rw [if_neg h1]
    unfold fX2_part fX2_length
    rw [hasO OO H hx, if_neg h1, zif0, hy, zw_0]
    by_cases h4 : y < 0
    · rw [if_pos h4]
    · rw [if_neg h4, if_pos (by omega)]
def sOk (np nr : Nat) (t : Nat → Nat) (sp : Nat → Int) (k : Nat) (a : hSt) : Bool := if sp k = 0 then decide ((0 ≤ sp (k + 1) ∧ sp (k + 1) < np ∧ 0 ≤ sp (k + 2) ∧ sp (k + 2) < nr) ∧ canF t a (sp (k + 1)).toNat (sp (k + 2)).toNat = true) else if sp k = 1 then decide ((0 ≤ sp (k + 1) ∧ sp (k + 1) < np) ∧ aW a (sp (k + 1)).toNat ≠ -1) else decide (aT a < 9999)
def sDo (np nd : Nat) (t : Nat → Nat) (gr : hGr) (sp : Nat → Int) (k : Nat) (a : hSt) : hSt := if sp k = 0 then aEnq (sp (k + 1)).toNat (sp (k + 2)).toNat a else if sp k = 1 then aLeave (sp (k + 1)).toNat a else aPass np nd t gr false a
theorem sDo_OK {np nd nr : Nat} {t : Nat → Nat} {gr : hGr} {sp : Nat → Int} {k : Nat} {a : hSt} (V : HV np nd nr t) (A : AOK np nd nr t a) (h : sOk np nr t sp k a = true) : AOK np nd nr t (sDo np nd t gr sp k a) ∧ (aL a).length ≤ (aL (sDo np nd t gr sp k a)).length := by
  unfold sOk at h
  unfold sDo
  by_cases h0 : sp k = 0
  · rw [if_pos h0] at h ⊢
    have := of_decide_eq_true h
    exact ⟨aEnq_OK V A (by omega) (by omega) (canF_w this.2), Nat.le_refl _⟩
  · rw [if_neg h0] at h ⊢
    by_cases h1 : sp k = 1
    · rw [if_pos h1] at h ⊢
      exact ⟨aLeave_OK A, Nat.le_refl _⟩
    · rw [if_neg h1] at h ⊢
      have := of_decide_eq_true h
      exact ⟨aPass_OK V A this, aPass_Ll⟩
theorem sIf {c : Prop} {_ : Decidable c} : (if c then (1 : Int) else 0) = if decide c = true then 1 else 0 := by
  by_cases h : c
  · rw [if_pos h, if_pos (decide_eq_true h)]
  · rw [if_neg h, if_neg (fun x => h (of_decide_eq_true x))]
theorem s01 {b : Bool} : (if b = true then (1 : Int) else 0) = 0 ∨ (if b = true then (1 : Int) else 0) = 1 := by
  cases b with
  | true => exact Or.inr rfl
  | false => exact Or.inl rfl
theorem canSM {np nd nr B no : Nat} {t : Nat → Nat} {ol : Nat → Nat} {sp : Nat → Int} {a : hSt} {g : zH} (V : HV np nd nr t) (OO : OV no ol sp) (M : HM np nd nr t g) (OM : OMo no ol sp g) (A : AV np nd nr t a) (S : MS np B a (g 69)) (hT : aT a < 20000) {N : Nat} (hN : 8 ≤ N) {o i : Nat} (ho : o < no) (hi : i < ol o) : fX11_canStep N (3 * ((16 * (o : Int)) + (i : Int))) g = some (if sOk np nr t sp (48 * o + 3 * i) a = true then 1 else 0) := by
  have h4 := OO.1
  have hl := (OO.2 o ho).1
  obtain ⟨b1, b2, b3, b4, b5, b6⟩ := (OO.2 o ho).2 i hi
  have m0 := (OM.2 o ho).2 (3 * i) (by omega)
  have m1 := (OM.2 o ho).2 (3 * i + 1) (by omega)
  have m2 := (OM.2 o ho).2 (3 * i + 2) (by omega)
  rw [show 48 * o + (3 * i + 1) = 48 * o + 3 * i + 1 by omega] at m1
  rw [show 48 * o + (3 * i + 2) = 48 * o + 3 * i + 2 by omega] at m2
  unfold fX11_canStep sOk
  rw [show 3 * ((16 * (o : Int)) + (i : Int)) = ((48 * o + 3 * i : Nat) : Int) by omega, zw_id (show -2147483648 ≤ ((48 * o + 3 * i : Nat) : Int) ∧ ((48 * o + 3 * i : Nat) : Int) < 2147483648 by omega), zw_id (show -2147483648 ≤ ((48 * o + 3 * i : Nat) : Int) + 1 ∧ ((48 * o + 3 * i : Nat) : Int) + 1 < 2147483648 by omega), zw_id (show -2147483648 ≤ ((48 * o + 3 * i : Nat) : Int) + 2 ∧ ((48 * o + 3 * i : Nat) : Int) + 2 < 2147483648 by omega), if_pos (by omega), zlet_v, Int.toNat_natCast, show (((48 * o + 3 * i : Nat) : Int) + 1).toNat = 48 * o + 3 * i + 1 by omega, show (((48 * o + 3 * i : Nat) : Int) + 2).toNat = 48 * o + 3 * i + 2 by omega, m0, m1, m2, zw_id (show -2147483648 ≤ sp (48 * o + 3 * i) ∧ sp (48 * o + 3 * i) < 2147483648 by omega), zw_1]
  by_cases h0 : sp (48 * o + 3 * i) = 0
  · rw [if_pos h0, if_pos h0, if_pos (by omega), if_pos (by omega), canFM V M A S hN (zw_id (by omega)) (zw_id (by omega)), zb_some, sIf, if_pos s01]
  · rw [if_neg h0, if_neg h0]
    by_cases h1 : sp (48 * o + 3 * i) = 1
    · rw [if_pos h1, if_pos h1, if_pos (by omega), canWM V M A S (zw_id (by omega)), zb_some, sIf, if_pos s01]
    · rw [if_neg h1, if_neg h1, S.2.1, zw_id (show -2147483648 ≤ (aT a : Int) ∧ (aT a : Int) < 2147483648 by omega), show zw 9999 = 9999 by decide]
      by_cases h2 : aT a < 9999
      · rw [if_neg (by omega), if_pos (decide_eq_true h2)]
      · rw [if_pos (by omega), if_neg (fun x => h2 (of_decide_eq_true x))]
theorem doSM {np nd nr B no : Nat} {t : Nat → Nat} {ol : Nat → Nat} {sp : Nat → Int} {a : hSt} {g : zH} (V : HV np nd nr t) (OO : OV no ol sp) (M : HM np nd nr t g) (OM : OMo no ol sp g) (A : AOK np nd nr t a) (S : MS np B a (g 69)) (hB : B < 1000000000) {N : Nat} (hN : 200 ≤ N) {gr : hGr} (G : GM N gr g) (h0 : 0 < np) {o i : Nat} (ho : o < no) (hi : i < ol o) (hs : sOk np nr t sp (48 * o + 3 * i) a = true) : ∃ g', fX11_doStep N (3 * ((16 * (o : Int)) + (i : Int))) g = some g' ∧ FR [69, 57, 58] g g' ∧ MS np (B + 1) (sDo np nd t gr sp (48 * o + 3 * i) a) (g' 69) := by
  have h4 := OO.1
  have hl := (OO.2 o ho).1
  obtain ⟨b1, b2, b3, b4, b5, b6⟩ := (OO.2 o ho).2 i hi
  have m0 := (OM.2 o ho).2 (3 * i) (by omega)
  have m1 := (OM.2 o ho).2 (3 * i + 1) (by omega)
  have m2 := (OM.2 o ho).2 (3 * i + 2) (by omega)
  rw [show 48 * o + (3 * i + 1) = 48 * o + 3 * i + 1 by omega] at m1
  rw [show 48 * o + (3 * i + 2) = 48 * o + 3 * i + 2 by omega] at m2
  unfold sOk at hs
  unfold fX11_doStep sDo
  rw [show 3 * ((16 * (o : Int)) + (i : Int)) = ((48 * o + 3 * i : Nat) : Int) by omega, zw_id (show -2147483648 ≤ ((48 * o + 3 * i : Nat) : Int) ∧ ((48 * o + 3 * i : Nat) : Int) < 2147483648 by omega), zw_id (show -2147483648 ≤ ((48 * o + 3 * i : Nat) : Int) + 1 ∧ ((48 * o + 3 * i : Nat) : Int) + 1 < 2147483648 by omega), zw_id (show -2147483648 ≤ ((48 * o + 3 * i : Nat) : Int) + 2 ∧ ((48 * o + 3 * i : Nat) : Int) + 2 < 2147483648 by omega), if_pos (by omega), Int.toNat_natCast, show (((48 * o + 3 * i : Nat) : Int) + 1).toNat = 48 * o + 3 * i + 1 by omega, show (((48 * o + 3 * i : Nat) : Int) + 2).toNat = 48 * o + 3 * i + 2 by omega, m0, m1, m2, zw_id (show -2147483648 ≤ sp (48 * o + 3 * i) ∧ sp (48 * o + 3 * i) < 2147483648 by omega), zw_1]
  by_cases c0 : sp (48 * o + 3 * i) = 0
  · rw [if_pos c0] at hs
    have hh := of_decide_eq_true hs
    rw [if_pos c0, if_pos c0, if_pos (by omega), if_pos (by omega)]
    obtain ⟨p, hp⟩ := Int.eq_ofNat_of_zero_le hh.1.1
    obtain ⟨r, hr⟩ := Int.eq_ofNat_of_zero_le hh.1.2.2.1
    rw [hp, hr] at hh ⊢
    rw [Int.toNat_natCast, Int.toNat_natCast] at hh ⊢
    obtain ⟨g', e1, e2, e3⟩ := filM (r := r) V A.1 S (show p < np by omega) (canF_w hh.2)
    rw [e1, zb_some]
    exact ⟨g', rfl, fun b hb => e2 b (fun e => hb (by rw [e]; decide)), e3⟩
  · rw [if_neg c0] at hs
    rw [if_neg c0, if_neg c0, if_pos (by omega)]
    by_cases c1 : sp (48 * o + 3 * i) = 1
    · rw [if_pos c1] at hs
      have hh := of_decide_eq_true hs
      rw [if_pos c1, if_pos c1, if_pos (by omega)]
      obtain ⟨p, hp⟩ := Int.eq_ofNat_of_zero_le hh.1.1
      rw [hp] at hh ⊢
      rw [Int.toNat_natCast] at hh ⊢
      obtain ⟨g', e1, e2, e3⟩ := goM V S (show p < np by omega)
      rw [e1, zb_some]
      exact ⟨g', rfl, fun b hb => e2 b (fun e => hb (by rw [e]; decide)), MS_B (by omega) e3⟩
    · rw [if_neg c1] at hs
      have hh := of_decide_eq_true hs
      rw [if_neg c1, if_neg c1, show (0 : Int) = dkI false from rfl]
      obtain ⟨g', e1, e2, e3⟩ := passM (dark := false) V M A.1 A.2.1 S (by omega) hN G (by omega) h0
      rw [e1, zb_some]
      exact ⟨g', rfl, fun b hb => e2 b (fun e => hb (by rw [e]; decide)) (fun e => hb (by rw [e]; decide)) (fun e => hb (by rw [e]; decide)), MS_B (by omega) e3⟩
theorem OVk {no : Nat} {ol : Nat → Nat} {sp : Nat → Int} (OO : OV no ol sp) {o i : Nat} (ho : o < no) (hi : i < ol o) : sp (48 * o + 3 * i) = 0 ∨ sp (48 * o + 3 * i) = 1 ∨ sp (48 * o + 3 * i) = 2 := by
  obtain ⟨b1, b2, -⟩ := (OO.2 o ho).2 i hi
  omega
theorem canSX7 {np nd nr no : Nat} {t : Nat → Nat} {ol : Nat → Nat} {sp : Nat → Int} {a : hSt} {h : zH} (V : HV np nd nr t) (OO : OV no ol sp) (X : HX np nd nr t h) (OH : OX no ol sp h) (A : AV np nd nr t a) (S : XS np t a (h 30)) (hT : aT a < 20000) {o i : Nat} (ho : o < no) (hi : i < ol o) : fX10_canStep 7 (o : Int) (i : Int) h = some (if sOk np nr t sp (48 * o + 3 * i) a = true then 1 else 0) := by
  obtain ⟨b1, b2, b3, b4, b5, b6⟩ := (OO.2 o ho).2 i hi
  have e0 : fX2_part (o : Int) (i : Int) 0 h = sp (48 * o + 3 * i) := partX OO OH ho hi (c := 0) (by decide)
  have e1 : fX2_part (o : Int) (i : Int) 1 h = sp (48 * o + 3 * i + 1) := partX OO OH ho hi (c := 1) (by decide)
  have e2 : fX2_part (o : Int) (i : Int) 2 h = sp (48 * o + 3 * i + 2) := partX OO OH ho hi (c := 2) (by decide)
  unfold fX10_canStep
  rw [e0, e1, e2]
  have key : ∀ x : Int, (-1 ≤ x ∧ x ≤ 2) → fX8_allows 7 2 x (sp (48 * o + 3 * i + 1)) (sp (48 * o + 3 * i + 2)) h = if x = 0 then (if ((0 ≤ sp (48 * o + 3 * i + 1) ∧ sp (48 * o + 3 * i + 1) < np ∧ 0 ≤ sp (48 * o + 3 * i + 2) ∧ sp (48 * o + 3 * i + 2) < nr) ∧ canF t a (sp (48 * o + 3 * i + 1)).toNat (sp (48 * o + 3 * i + 2)).toNat = true) then 1 else 0) else if x = 1 then (if ((0 ≤ sp (48 * o + 3 * i + 1) ∧ sp (48 * o + 3 * i + 1) < np) ∧ aW a (sp (48 * o + 3 * i + 1)).toNat ≠ -1) then 1 else 0) else if x = 2 then (if aT a < 9999 then 1 else 0) else fX8_allows 7 2 x (sp (48 * o + 3 * i + 1)) (sp (48 * o + 3 * i + 2)) h := by
    intro x hx
    by_cases c0 : x = 0
    · subst c0
      rw [if_pos rfl]
      exact alX7_0 V X A S (zw_id (by omega)) (zw_id (by omega))
    · rw [if_neg c0]
      by_cases c1 : x = 1
      · subst c1
        rw [if_pos rfl]
        exact alX7_1 V X A S (zw_id (by omega)) _
      · rw [if_neg c1]
        by_cases c2 : x = 2
        · subst c2
          rw [if_pos rfl]
          exact alX7_2 S hT _ _
        · rw [if_neg c2]
  have hx := OVk OO ho hi
  rw [key _ (by omega), zlet_v]
  unfold sOk
  by_cases c0 : sp (48 * o + 3 * i) = 0
  · rw [if_pos c0, if_pos c0, sIf, if_pos s01]
  · rw [if_neg c0, if_neg c0]
    by_cases c1 : sp (48 * o + 3 * i) = 1
    · rw [if_pos c1, if_pos c1, sIf, if_pos s01]
    · rw [if_neg c1, if_neg c1, if_pos (show sp (48 * o + 3 * i) = 2 by omega), sIf, if_pos s01]
theorem canSX8 {np nd nr no : Nat} {t : Nat → Nat} {ol : Nat → Nat} {sp : Nat → Int} {a : hSt} {h : zH} (V : HV np nd nr t) (OO : OV no ol sp) (X : HX np nd nr t h) (OH : OX no ol sp h) (A : AV np nd nr t a) (S : XS np t a (h 34)) (hT : aT a < 20000) {o i : Nat} (ho : o < no) (hi : i < ol o) : fX10_canStep 8 (o : Int) (i : Int) h = some (if sOk np nr t sp (48 * o + 3 * i) a = true then 1 else 0) := by
  obtain ⟨b1, b2, b3, b4, b5, b6⟩ := (OO.2 o ho).2 i hi
  have e0 : fX2_part (o : Int) (i : Int) 0 h = sp (48 * o + 3 * i) := partX OO OH ho hi (c := 0) (by decide)
  have e1 : fX2_part (o : Int) (i : Int) 1 h = sp (48 * o + 3 * i + 1) := partX OO OH ho hi (c := 1) (by decide)
  have e2 : fX2_part (o : Int) (i : Int) 2 h = sp (48 * o + 3 * i + 2) := partX OO OH ho hi (c := 2) (by decide)
  unfold fX10_canStep
  rw [e0, e1, e2]
  have key : ∀ x : Int, (-1 ≤ x ∧ x ≤ 2) → fX8_allows 8 2 x (sp (48 * o + 3 * i + 1)) (sp (48 * o + 3 * i + 2)) h = if x = 0 then (if ((0 ≤ sp (48 * o + 3 * i + 1) ∧ sp (48 * o + 3 * i + 1) < np ∧ 0 ≤ sp (48 * o + 3 * i + 2) ∧ sp (48 * o + 3 * i + 2) < nr) ∧ canF t a (sp (48 * o + 3 * i + 1)).toNat (sp (48 * o + 3 * i + 2)).toNat = true) then 1 else 0) else if x = 1 then (if ((0 ≤ sp (48 * o + 3 * i + 1) ∧ sp (48 * o + 3 * i + 1) < np) ∧ aW a (sp (48 * o + 3 * i + 1)).toNat ≠ -1) then 1 else 0) else if x = 2 then (if aT a < 9999 then 1 else 0) else fX8_allows 8 2 x (sp (48 * o + 3 * i + 1)) (sp (48 * o + 3 * i + 2)) h := by
    intro x hx
    by_cases c0 : x = 0
    · subst c0
      rw [if_pos rfl]
      exact alX8_0 V X A S (zw_id (by omega)) (zw_id (by omega))
    · rw [if_neg c0]
      by_cases c1 : x = 1
      · subst c1
        rw [if_pos rfl]
        exact alX8_1 V X A S (zw_id (by omega)) _
      · rw [if_neg c1]
        by_cases c2 : x = 2
        · subst c2
          rw [if_pos rfl]
          exact alX8_2 S hT _ _
        · rw [if_neg c2]
  have hx := OVk OO ho hi
  rw [key _ (by omega), zlet_v]
  unfold sOk
  by_cases c0 : sp (48 * o + 3 * i) = 0
  · rw [if_pos c0, if_pos c0, sIf, if_pos s01]
  · rw [if_neg c0, if_neg c0]
    by_cases c1 : sp (48 * o + 3 * i) = 1
    · rw [if_pos c1, if_pos c1, sIf, if_pos s01]
    · rw [if_neg c1, if_neg c1, if_pos (show sp (48 * o + 3 * i) = 2 by omega), sIf, if_pos s01]
