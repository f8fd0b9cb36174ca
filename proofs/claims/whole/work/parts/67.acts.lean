/-! acts: what is kept, what is undone -/
/-- the heaps agree but for these rows -/
def FR (L : List Nat) (h h' : zH) : Prop := ∀ b, b ∉ L → h' b = h b
/-- a row agrees but for these slots -/
def FS (o : Nat) (J : List Nat) (h h' : zH) : Prop := ∀ j, j ∉ J → h' o j = h o j
theorem FR_tr {L : List Nat} {h h' h'' : zH} (F : FR L h h') (G : FR L h' h'') : FR L h h'' := fun b hb => (G b hb).trans (F b hb)
theorem FS_tr {o : Nat} {J : List Nat} {h h' h'' : zH} (F : FS o J h h') (G : FS o J h' h'') : FS o J h h'' := fun b hb => (G b hb).trans (F b hb)
theorem FR_rf {L : List Nat} {h : zH} : FR L h h := fun _ _ => rfl
theorem FS_rf {o : Nat} {J : List Nat} {h : zH} : FS o J h h := fun _ _ => rfl
theorem FR_up {L L' : List Nat} {h h' : zH} (F : FR L h h') (hL : ∀ b, b ∈ L → b ∈ L') : FR L' h h' := fun b hb => F b (fun x => hb (hL b x))
theorem FS_of {L : List Nat} {o : Nat} {J : List Nat} {h h' : zH} (F : FR L h h') (ho : o ∉ L) : FS o J h h' := fun j _ => by rw [F o ho]
theorem XS_cg {np : Nat} {t : Nat → Nat} {a : hSt} {rc rc' : Nat → Int} (hn : np ≤ 6) (hq : (aQ a).length ≤ 6) (S : XS np t a rc) (e : ∀ j, j < 51 → rc' j = rc j) : XS np t a rc' := by
  obtain ⟨s1, s2, s3, s4, s5⟩ := S
  refine ⟨fun p hp => ?_, ?_, ?_, fun i hi => ?_, ?_⟩
  · rw [e p (by omega), e (6 + p) (by omega), e (12 + p) (by omega), e (18 + p) (by omega), e (24 + p) (by omega), e (30 + p) (by omega), e (36 + p) (by omega)]
    exact s1 p hp
  · rw [e 48 (by omega)]; exact s2
  · rw [e 49 (by omega)]; exact s3
  · rw [e (42 + i) (by omega)]; exact s4 i hi
  · rw [e 50 (by omega)]; exact s5
theorem MS_cg {np B : Nat} {a : hSt} {m m' : Nat → Int} (hn : np ≤ 6) (hq : ∀ x, x ∈ aQ a → x < np) (S : MS np B a m) (e : ∀ j, j < 165 → m' j = m j) : MS np B a m' := by
  obtain ⟨s1, s2, s3, s4, s5, s6, s7⟩ := S
  refine ⟨fun p hp => ?_, ?_, ?_, fun x hx => ?_, ?_, ?_, fun i hi => ?_⟩
  · rw [e (7 * p) (by omega), e (7 * p + 1) (by omega), e (7 * p + 3) (by omega), e (7 * p + 4) (by omega), e (7 * p + 5) (by omega), e (7 * p + 6) (by omega)]
    exact s1 p hp
  · rw [e 42 (by omega)]; exact s2
  · rw [e 43 (by omega)]; exact s3
  · have := hq x hx
    rw [e (7 * x + 2) (by omega), e 43 (by omega)]; exact s4 x hx
  · refine List.Pairwise.imp_of_mem ?_ s5
    intro x y hx hy hxy
    have h1 := hq x hx
    have h2 := hq y hy
    rw [e (7 * x + 2) (by omega), e (7 * y + 2) (by omega)]; exact hxy
  · rw [e 44 (by omega)]; exact s6
  · rw [e _ (by omega), e _ (by omega)]; exact s7 i hi
theorem MS_B {np B B' : Nat} {a : hSt} {m : Nat → Int} (hB : B ≤ B') (S : MS np B a m) : MS np B' a m := by
  obtain ⟨s1, s2, s3, s4⟩ := S
  exact ⟨s1, s2, ⟨s3.1, by omega⟩, s4⟩
/-- a state as it may be -/
def AOK (np nd nr : Nat) (t : Nat → Nat) (a : hSt) : Prop := AV np nd nr t a ∧ ADs np nr t a ∧ ALs t a ∧ aT a ≤ 9999
theorem AOK_L {np nd nr : Nat} {t : Nat → Nat} {a : hSt} (A : AOK np nd nr t a) : (aL a).length < 420 := by
  have h1 := A.2.2.1
  have h2 := A.2.2.2
  unfold ALs at h1
  omega
theorem AOK_q {np nd nr : Nat} {t : Nat → Nat} {a : hSt} (V : HV np nd nr t) (A : AOK np nd nr t a) : (aQ a).length ≤ 6 := Nat.le_trans (aQ_len A.1) V.1.1
theorem AOK_m {np nd nr : Nat} {t : Nat → Nat} {a : hSt} (A : AOK np nd nr t a) : ∀ x, x ∈ aQ a → x < np := fun x hx => ((A.1.2.2.1 x).mp hx).1
/-- the class's ring of acts, the latest first -/
def AX (np : Nat) (t : Nat → Nat) (lim : Nat) (acts : List hSt) (h : zH) : Prop := h 10 0 = (acts.length : Int) ∧ ∃ l : Nat, h 10 2 = (l : Int) ∧ acts.length ≤ l ∧ l ≤ lim ∧ ∀ i a, acts[i]? = some a → XS np t a (fun j => h 42 ((l - i) % 40 * 51 + j))
/-- the reference's row of acts -/
def AMo (np B : Nat) (acts : List hSt) (g : zH) : Prop := g 14 38 = (acts.length : Int) ∧ ∀ i a, acts[i]? = some a → MS np B a (fun j => g 70 (165 * (acts.length - 1 - i) + j))
def wKeep (a : hSt) (acts : List hSt) : List hSt := (a :: acts).take 40
theorem wKeep_len {a : hSt} {acts : List hSt} (h : acts.length ≤ 40) : (wKeep a acts).length = if acts.length = 40 then 40 else acts.length + 1 := by
  unfold wKeep
  rw [List.length_take, List.length_cons]
  split <;> omega
theorem wKeep_mem {a x : hSt} {acts : List hSt} (h : x ∈ wKeep a acts) : x = a ∨ x ∈ acts := List.mem_cons.mp (List.mem_of_mem_take h)
theorem wKeep_get {a x : hSt} {acts : List hSt} {i : Nat} (h : (wKeep a acts)[i]? = some x) : i < 40 ∧ ((i = 0 ∧ x = a) ∨ ∃ k, i = k + 1 ∧ acts[k]? = some x) := by
  unfold wKeep at h
  rw [List.getElem?_take] at h
  by_cases h40 : i < 40
  · rw [if_pos h40] at h
    refine ⟨h40, ?_⟩
    cases i with
    | zero =>
      rw [List.getElem?_cons_zero] at h
      exact Or.inl ⟨rfl, (Option.some.inj h).symm⟩
    | succ k =>
      rw [List.getElem?_cons_succ] at h
      exact Or.inr ⟨k, rfl, h⟩
  · rw [if_neg h40] at h; cases h
theorem keepAX {np nd nr : Nat} {t : Nat → Nat} {lim : Nat} {acts : List hSt} {a : hSt} {h : zH} (V : HV np nd nr t) (A : AOK np nd nr t a) (AA : ∀ x, x ∈ acts → AOK np nd nr t x) (h40 : acts.length ≤ 40) (H : AX np t lim acts h) (hlim : lim < 1000000000) (S : XS np t a (h 30)) : ∃ h', fX0_keep 7 h = some h' ∧ FR [10, 42] h h' ∧ AX np t (lim + 1) (wKeep a acts) h' := by
  obtain ⟨H1, l, H2, H3, H4, H5⟩ := H
  refine ⟨_, keepX_eq H2 (by omega) (by omega), fun b hb => ?_, ?_, l + 1, ?_, ?_, by omega, fun i x hx => ?_⟩
  · have b1 : b ≠ 10 := fun e => hb (by rw [e]; decide)
    have b2 : b ≠ 42 := fun e => hb (by rw [e]; decide)
    rw [zs_row_ne b1, zcopy_ne b2, zs_row_ne b1]
  · rw [zs_at, H1, wKeep_len h40]
    split <;> split <;> omega
  · rw [zs_ne (by omega), zcopy_ne (by decide), zs_at]
  · rw [wKeep_len h40]
    split <;> omega
  · obtain ⟨i40, hc⟩ := wKeep_get hx
    rw [show zs (zcopy (zs h 10 2 ((l + 1 : Nat) : Int)) 30 0 42 ((l + 1) % 40 * 51) 51) 10 0 (if h 10 0 + 1 ≤ 40 then h 10 0 + 1 else 40) 42 = zcopy (zs h 10 2 ((l + 1 : Nat) : Int)) 30 0 42 ((l + 1) % 40 * 51) 51 42 from zs_row_ne (by decide)]
    rcases hc with ⟨rfl, rfl⟩ | ⟨k, rfl, hk⟩
    · refine XS_cg V.1.1 (AOK_q V A) S (fun j hj => ?_)
      rw [Nat.sub_zero, zcopy_in hj, zs_row_ne (by decide), Nat.zero_add]
    · have hk2 : k < acts.length := by
        rcases Nat.lt_or_ge k acts.length with h1 | h1
        · exact h1
        · rw [List.getElem?_eq_none h1] at hk; cases hk
      have hmem : x ∈ acts := List.mem_of_getElem? hk
      refine XS_cg V.1.1 (AOK_q V (AA x hmem)) (H5 k x hk) (fun j hj => ?_)
      have e1 : l + 1 - (k + 1) = l - k := by omega
      rw [e1, zcopy_out (by omega), zs_row_ne (by decide)]
theorem keepAM {np nd nr B : Nat} {t : Nat → Nat} {acts : List hSt} {a : hSt} {g : zH} (V : HV np nd nr t) (A : AOK np nd nr t a) (AA : ∀ x, x ∈ acts → AOK np nd nr t x) (h40 : acts.length ≤ 40) (H : AMo np B acts g) (S : MS np B a (g 69)) {N : Nat} (hN : 6600 ≤ N) : ∃ g', fX11_keep N g = some g' ∧ FR [14, 70] g g' ∧ FS 14 [38] g g' ∧ AMo np B (wKeep a acts) g' := by
  obtain ⟨H1, H2⟩ := H
  have hl := wKeep_len (a := a) h40
  unfold fX11_keep
  rw [H1, zw_id (show -2147483648 ≤ (acts.length : Int) ∧ (acts.length : Int) < 2147483648 by omega), show zw 40 = 40 by decide]
  by_cases hc : acts.length = 40
  · rw [if_pos (by omega), keepM_full (by omega) g (by omega)]
    rw [if_pos hc] at hl
    refine ⟨_, rfl, fun b hb => ?_, fun j hj => ?_, ?_, fun i x hx => ?_⟩
    · have b1 : b ≠ 14 := fun e => hb (by rw [e]; decide)
      have b2 : b ≠ 70 := fun e => hb (by rw [e]; decide)
      rw [zs_row_ne b1, zcopy_ne b2, zs_row_ne b1, zdown_ne b2]
    · have j1 : j ≠ 38 := fun e => hj (by rw [e]; decide)
      rw [zs_ne j1, zcopy_ne (by decide), zs_ne j1, zdown_ne (by decide)]
    · rw [zs_at, hl]; rfl
    · rw [hl]
      obtain ⟨i40, hc2⟩ := wKeep_get hx
      rw [show zs (zcopy (zs (zdown g 70 165 6435) 14 38 39) 69 0 70 (165 * 39) 165) 14 38 40 70 = zcopy (zs (zdown g 70 165 6435) 14 38 39) 69 0 70 (165 * 39) 165 70 from zs_row_ne (by decide)]
      rcases hc2 with ⟨rfl, rfl⟩ | ⟨k, rfl, hk⟩
      · refine MS_cg V.1.1 (AOK_m A) S (fun j hj => ?_)
        rw [show 165 * (40 - 1 - 0) + j = 165 * 39 + j by omega, zcopy_in hj, zs_row_ne (by decide), zdown_ne (by decide), Nat.zero_add]
      · have hmem : x ∈ acts := List.mem_of_getElem? hk
        refine MS_cg V.1.1 (AOK_m (AA x hmem)) (H2 k x hk) (fun j hj => ?_)
        rw [zcopy_out (by omega), zs_row_ne (by decide), zdown_row, if_pos (by omega), hc]
        congr 1
        omega
  · rw [if_neg (by omega), keepM_eq (by omega) g H1 (by omega)]
    rw [if_neg hc] at hl
    refine ⟨_, rfl, fun b hb => ?_, fun j hj => ?_, ?_, fun i x hx => ?_⟩
    · have b1 : b ≠ 14 := fun e => hb (by rw [e]; decide)
      have b2 : b ≠ 70 := fun e => hb (by rw [e]; decide)
      rw [zs_row_ne b1, zcopy_ne b2]
    · have j1 : j ≠ 38 := fun e => hj (by rw [e]; decide)
      rw [zs_ne j1, zcopy_ne (by decide)]
    · rw [zs_at, hl, H1]; rfl
    · rw [hl]
      obtain ⟨i40, hc2⟩ := wKeep_get hx
      rw [show zs (zcopy g 69 0 70 (165 * acts.length) 165) 14 38 (g 14 38 + 1) 70 = zcopy g 69 0 70 (165 * acts.length) 165 70 from zs_row_ne (by decide)]
      rcases hc2 with ⟨rfl, rfl⟩ | ⟨k, rfl, hk⟩
      · refine MS_cg V.1.1 (AOK_m A) S (fun j hj => ?_)
        rw [show 165 * (acts.length + 1 - 1 - 0) + j = 165 * acts.length + j by omega, zcopy_in hj, Nat.zero_add]
      · have hmem : x ∈ acts := List.mem_of_getElem? hk
        have hk2 : k < acts.length := by
          rcases Nat.lt_or_ge k acts.length with h1 | h1
          · exact h1
          · rw [List.getElem?_eq_none h1] at hk; cases hk
        refine MS_cg V.1.1 (AOK_m (AA x hmem)) (H2 k x hk) (fun j hj => ?_)
        rw [zcopy_out (by omega)]
        congr 1
        omega
theorem undoAX {np nd nr : Nat} {t : Nat → Nat} {lim : Nat} {acts : List hSt} {a : hSt} {h : zH} (V : HV np nd nr t) (A : AOK np nd nr t a) (h40 : (a :: acts).length ≤ 40) (H : AX np t lim (a :: acts) h) (hlim : lim < 1000000000) : ∃ h', fX0_restore 7 h = some ((acts.length : Int), h') ∧ FR [10, 30] h h' ∧ XS np t a (h' 30) ∧ AX np t lim acts h' := by
  obtain ⟨H1, l, H2, H3, H4, H5⟩ := H
  rw [List.length_cons] at H1 H3 h40
  have e1 : h 10 0 - 1 = (acts.length : Int) := by omega
  have key := restoreX_eq H2 (by omega) (show 1 ≤ h 10 0 ∧ h 10 0 ≤ 40 by omega)
  rw [e1] at key
  refine ⟨_, key, fun b hb => ?_, ?_, ?_, l - 1, ?_, by omega, by omega, fun i x hx => ?_⟩
  · have b1 : b ≠ 10 := fun e => hb (by rw [e]; decide)
    have b2 : b ≠ 30 := fun e => hb (by rw [e]; decide)
    rw [zs_row_ne b1, zs_row_ne b1, zcopy_ne b2]
  · rw [zs_row_ne (by decide), zs_row_ne (by decide)]
    refine XS_cg V.1.1 (AOK_q V A) (H5 0 a rfl) (fun j hj => ?_)
    have := zcopy_in (h := h) (o := 42) (sp := l % 40 * 51) (o2 := 30) (dp := 0) hj
    rw [Nat.zero_add] at this
    rw [this, Nat.sub_zero]
  · rw [zs_at]
  · rw [zs_ne (by omega), zs_at]; omega
  · rw [zs_row_ne (by decide), zs_row_ne (by decide), zcopy_ne (by decide)]
    have := H5 (i + 1) x (by rw [List.getElem?_cons_succ]; exact hx)
    rw [show l - (i + 1) = l - 1 - i by omega] at this
    exact this
theorem undoAM {np nd nr B : Nat} {t : Nat → Nat} {acts : List hSt} {a : hSt} {g : zH} (V : HV np nd nr t) (A : AOK np nd nr t a) (h40 : (a :: acts).length ≤ 40) (H : AMo np B (a :: acts) g) {N : Nat} (hN : 200 ≤ N) : ∃ g', fX11_undo N g = some ((acts.length : Int), g') ∧ FR [14, 69] g g' ∧ FS 14 [38] g g' ∧ MS np B a (g' 69) ∧ AMo np B acts g' := by
  obtain ⟨H1, H2⟩ := H
  rw [List.length_cons] at H1 h40
  unfold fX11_undo
  rw [H1, zw_id (show -2147483648 ≤ ((acts.length + 1 : Nat) : Int) ∧ ((acts.length + 1 : Nat) : Int) < 2147483648 by omega), if_neg (by omega), zlet_v]
  have e1 : zs g 14 38 (((acts.length + 1 : Nat) : Int) - 1) 14 38 = (acts.length : Int) := by rw [zs_at]; omega
  rw [undoM_eq (by omega) _ e1 (by omega), e1]
  refine ⟨_, rfl, fun b hb => ?_, fun j hj => ?_, ?_, ?_, fun i x hx => ?_⟩
  · have b1 : b ≠ 14 := fun e => hb (by rw [e]; decide)
    have b2 : b ≠ 69 := fun e => hb (by rw [e]; decide)
    rw [zcopy_ne b2, zs_row_ne b1]
  · have j1 : j ≠ 38 := fun e => hj (by rw [e]; decide)
    rw [zcopy_ne (by decide), zs_ne j1]
  · refine MS_cg V.1.1 (AOK_m A) (H2 0 a rfl) (fun j hj => ?_)
    have := zcopy_in (h := zs g 14 38 (((acts.length + 1 : Nat) : Int) - 1)) (o := 70) (sp := 165 * acts.length) (o2 := 69) (dp := 0) hj
    rw [Nat.zero_add] at this
    rw [this, zs_row_ne (by decide), List.length_cons]
    congr 1
  · rw [zcopy_ne (by decide), e1]
  · rw [zcopy_ne (by decide), zs_row_ne (by decide)]
    have := H2 (i + 1) x (by rw [List.getElem?_cons_succ]; exact hx)
    rw [List.length_cons, show acts.length + 1 - 1 - (i + 1) = acts.length - 1 - i by omega] at this
    exact this
