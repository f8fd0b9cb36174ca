/-! could, sure, wrong, works of both -/
theorem two_np {np : Nat} (h : np ≤ 6) : 2 ^ np ≤ 64 ∧ 1 ≤ 2 ^ np := ⟨(Nat.pow_le_pow_right (by decide) h : 2 ^ np ≤ 2 ^ 6), Nat.two_pow_pos _⟩
theorem couX {np nd nr n : Nat} {t sP sH : Nat → Nat} {h : zH} (V : HV np nd nr t) (X : HX np nd nr t h) (Nv : NV np n sP sH) (H : NX n sP sH h) {N : Nat} (hN : 100 ≤ N) {x : Int} (hx : zw x = x) : (¬ (0 < np ∧ -1 ≤ x) → fX10_could N x h = some (-1, h)) ∧ (0 < np ∧ -1 ≤ x → ∃ h', fX10_could N x h = some (cRes (fun s => fb np t sP sH s n) x (2 ^ np), h') ∧ FR [48] h h') := by
  have v := V.1
  have p2 := two_np v.1
  refine ⟨fun hc => ?_, fun hc => ?_⟩
  · unfold fX10_could
    rw [hasHillX V X, zq, zw_m1, hx]
    by_cases h0 : 0 < np
    · rw [if_pos h0, if_neg (fun y => hc ⟨h0, y⟩)]
    · rw [if_neg h0]
  · unfold fX10_could
    rw [hasHillX V X, zq, zw_m1, hx, if_pos hc.1, if_pos hc.2]
    refine zloopq (F := fun k i (s : Int × zH) => fX10_could_c18 N k x s.1 i s.2) (n := 2 ^ np) (s := (0, h)) (fun i s => s.1 = (cm (fun s => fb np t sP sH s n) i : Int) ∧ FR [48] h s.2 ∧ cS (fun s => fb np t sP sH s n) x i = none) (fun b => ∃ h', b = some (cRes (fun s => fb np t sP sH s n) x (2 ^ np), h') ∧ FR [48] h h') (fun k i s hi hI => ?_) (fun k s hI => ?_) (by omega) ⟨rfl, FR_rf, rfl⟩
    · obtain ⟨m, s⟩ := s
      obtain ⟨i1, i2, i3⟩ := hI
      dsimp only at i1 i2 i3 ⊢
      have Xs : HX np nd nr t s := HX_to X (i2 16 (by decide)) (i2 17 (by decide)) (i2 18 (by decide))
      have Hs : NX n sP sH s := NX_to H (by rw [i2 13 (by decide)]) (i2 46 (by decide)) (i2 47 (by decide))
      obtain ⟨h1, f1, f2⟩ := falX V Xs Nv Hs (N := N) (by omega) (s := i) (by omega)
      have hf := fb_le (np := np) (t := t) (sP := sP) (sH := sH) (s := i) n
      have n12 := Nv.1
      have hcm := cm_le (f := fun s => fb np t sP sH s n) i
      have e : fX10_could_c18 N (k + 1) x m (i : Int) s = if fb np t sP sH i n = 0 then (if m = x then some ((i : Int), h1) else fX10_could_c18 N k x (m + 1) ((i + 1 : Nat) : Int) h1) else fX10_could_c18 N k x m ((i + 1 : Nat) : Int) h1 := by
        show fX10_could_c18b N (fX10_could_c18 N k) _ _ _ _ = _
        unfold fX10_could_c18b
        rw [xm1 Xs, zshl_1 np (by omega), zw_id (show -2147483648 ≤ ((2 ^ np : Nat) : Int) ∧ ((2 ^ np : Nat) : Int) < 2147483648 by omega), zw_id (show -2147483648 ≤ (i : Int) ∧ (i : Int) < 2147483648 by omega), if_neg (by omega), f1, z2_some, zw_id (show -2147483648 ≤ (fb np t sP sH i n : Int) ∧ (fb np t sP sH i n : Int) < 2147483648 by omega), zw_id (show -2147483648 ≤ m ∧ m < 2147483648 by omega), hx]
        by_cases c1 : fb np t sP sH i n = 0
        · rw [if_pos (by omega), if_pos c1]; rfl
        · rw [if_neg (by omega), if_neg c1]; rfl
      have ecm : cm (fun s => fb np t sP sH s n) (i + 1) = cm (fun s => fb np t sP sH s n) i + if fb np t sP sH i n = 0 then 1 else 0 := rfl
      have ecs : cS (fun s => fb np t sP sH s n) x (i + 1) = if fb np t sP sH i n = 0 ∧ (cm (fun s => fb np t sP sH s n) i : Int) = x then some i else none := by
        show (match cS (fun s => fb np t sP sH s n) x i with | some s => some s | none => _) = _
        rw [i3]
      by_cases c1 : fb np t sP sH i n = 0
      · rw [if_pos c1] at e ecm
        by_cases c2 : m = x
        · right
          rw [if_pos c2] at e
          rw [if_pos ⟨c1, by omega⟩] at ecs
          have := cS_mono ecs (show i + 1 ≤ 2 ^ np by omega)
          refine ⟨h1, ?_, FR_tr i2 f2⟩
          show fX10_could_c18 N (k + 1) x m (i : Int) s = _
          rw [e]
          unfold cRes
          rw [this]
        · left
          rw [if_neg c2] at e
          rw [if_neg (by omega)] at ecs
          exact ⟨(m + 1, h1), e, by rw [ecm]; show m + 1 = _; omega, FR_tr i2 f2, ecs⟩
      · left
        rw [if_neg c1] at e ecm
        rw [if_neg (fun y => c1 y.1)] at ecs
        exact ⟨(m, h1), e, by rw [ecm]; exact i1, FR_tr i2 f2, ecs⟩
    · obtain ⟨m, s⟩ := s
      obtain ⟨i1, i2, i3⟩ := hI
      dsimp only at i1 i2 i3 ⊢
      have Xs : HX np nd nr t s := HX_to X (i2 16 (by decide)) (i2 17 (by decide)) (i2 18 (by decide))
      refine ⟨s, ?_, i2⟩
      show fX10_could_c18b N (fX10_could_c18 N k) _ _ _ _ = _
      unfold fX10_could_c18b cRes
      rw [xm1 Xs, zshl_1 np (by omega), if_pos (Int.le_refl _), hx, zw_m1, i3, i1]
      by_cases c : x = -1
      · rw [if_pos c]; dsimp only; rw [if_pos c]
      · rw [if_neg c]; dsimp only; rw [if_neg c]
theorem couM {np nd nr n : Nat} {t sP sH : Nat → Nat} {g : zH} (V : HV np nd nr t) (M : HM np nd nr t g) (Nv : NV np n sP sH) (H : NMo n sP sH g) {N : Nat} (hN : 100 ≤ N) {x : Int} (hx : zw x = x) : (¬ (0 < np ∧ -1 ≤ x) → fX11_could N x g = some (-1)) ∧ (0 < np ∧ -1 ≤ x → fX11_could N x g = some (cRes (fun s => fb np t sP sH s n) x (2 ^ np))) := by
  have v := V.1
  have p2 := two_np v.1
  refine ⟨fun hc => ?_, fun hc => ?_⟩
  · unfold fX11_could
    rw [M.1.1, zw_id (show -2147483648 ≤ (np : Int) ∧ (np : Int) < 2147483648 by omega), zw_m1, hx]
    by_cases h0 : 0 < np
    · rw [if_neg (show ¬ (np : Int) = 0 by omega), if_neg (fun y => hc ⟨h0, y⟩)]
    · rw [if_pos (show (np : Int) = 0 by omega)]
  · unfold fX11_could
    rw [M.1.1, zw_id (show -2147483648 ≤ (np : Int) ∧ (np : Int) < 2147483648 by omega), zw_m1, hx, if_neg (show ¬ (np : Int) = 0 by omega), if_pos hc.2]
    refine zloopq (F := fun k i (m : Int) => fX11_could_c18 N g k x m i) (n := 2 ^ np) (s := 0) (fun i m => m = (cm (fun s => fb np t sP sH s n) i : Int) ∧ cS (fun s => fb np t sP sH s n) x i = none) (fun b => b = some (cRes (fun s => fb np t sP sH s n) x (2 ^ np))) (fun k i m hi hI => ?_) (fun k m hI => ?_) (by omega) ⟨rfl, rfl⟩
    · obtain ⟨i1, i3⟩ := hI
      have f1 := falM V M Nv H (N := N) (by omega) (s := i) (by omega)
      have hf := fb_le (np := np) (t := t) (sP := sP) (sH := sH) (s := i) n
      have n12 := Nv.1
      have hcm := cm_le (f := fun s => fb np t sP sH s n) i
      have e : fX11_could_c18 N g (k + 1) x m (i : Int) = if fb np t sP sH i n = 0 then (if m = x then some (i : Int) else fX11_could_c18 N g k x (m + 1) ((i + 1 : Nat) : Int)) else fX11_could_c18 N g k x m ((i + 1 : Nat) : Int) := by
        show fX11_could_c18b N g (fX11_could_c18 N g k) _ _ _ = _
        unfold fX11_could_c18b
        rw [M.1.1, zshl_1 np (by omega), zw_id (show -2147483648 ≤ ((2 ^ np : Nat) : Int) ∧ ((2 ^ np : Nat) : Int) < 2147483648 by omega), zw_id (show -2147483648 ≤ (i : Int) ∧ (i : Int) < 2147483648 by omega), if_neg (by omega), f1, zb_some, zw_id (show -2147483648 ≤ (fb np t sP sH i n : Int) ∧ (fb np t sP sH i n : Int) < 2147483648 by omega), zw_id (show -2147483648 ≤ m ∧ m < 2147483648 by omega), hx]
        by_cases c1 : fb np t sP sH i n = 0
        · rw [if_pos (by omega), if_pos c1]; rfl
        · rw [if_neg (by omega), if_neg c1]; rfl
      have ecm : cm (fun s => fb np t sP sH s n) (i + 1) = cm (fun s => fb np t sP sH s n) i + if fb np t sP sH i n = 0 then 1 else 0 := rfl
      have ecs : cS (fun s => fb np t sP sH s n) x (i + 1) = if fb np t sP sH i n = 0 ∧ (cm (fun s => fb np t sP sH s n) i : Int) = x then some i else none := by
        show (match cS (fun s => fb np t sP sH s n) x i with | some s => some s | none => _) = _
        rw [i3]
      by_cases c1 : fb np t sP sH i n = 0
      · rw [if_pos c1] at e ecm
        by_cases c2 : m = x
        · right
          rw [if_pos c2] at e
          rw [if_pos ⟨c1, by omega⟩] at ecs
          have := cS_mono ecs (show i + 1 ≤ 2 ^ np by omega)
          show fX11_could_c18 N g (k + 1) x m (i : Int) = _
          rw [e]
          unfold cRes
          rw [this]
        · left
          rw [if_neg c2] at e
          rw [if_neg (by omega)] at ecs
          exact ⟨m + 1, e, by rw [ecm]; omega, ecs⟩
      · left
        rw [if_neg c1] at e ecm
        rw [if_neg (fun y => c1 y.1)] at ecs
        exact ⟨m, e, by rw [ecm]; exact i1, ecs⟩
    · obtain ⟨i1, i3⟩ := hI
      show fX11_could_c18b N g (fX11_could_c18 N g k) _ _ _ = _
      unfold fX11_could_c18b cRes
      rw [M.1.1, zshl_1 np (by omega), if_pos (Int.le_refl _), hx, zw_m1, i3, i1]
      by_cases c : x = -1
      · rw [if_pos c]; dsimp only; rw [if_pos c]
      · rw [if_neg c]; dsimp only; rw [if_neg c]
theorem surX {np nd nr n : Nat} {t sP sH : Nat → Nat} {h : zH} (V : HV np nd nr t) (X : HX np nd nr t h) (Nv : NV np n sP sH) (H : NX n sP sH h) {N : Nat} (hN : 100 ≤ N) : ∃ h', fX10_sure N h = some (if 0 < np then sF (fun s => fb np t sP sH s n) (2 ^ np) else -1, h') ∧ FR [48] h h' := by
  have v := V.1
  have p2 := two_np v.1
  unfold fX10_sure
  rw [hasHillX V X, zq]
  by_cases h0 : 0 < np
  · rw [if_pos h0, if_pos h0]
    refine zloopq (F := fun k i (s : Int × zH) => fX10_sure_c13 N k s.1 i s.2) (n := 2 ^ np) (s := (-1, h)) (fun i s => s.1 = sF (fun s => fb np t sP sH s n) i ∧ FR [48] h s.2) (fun b => ∃ h', b = some (sF (fun s => fb np t sP sH s n) (2 ^ np), h') ∧ FR [48] h h') (fun k i s hi hI => ?_) (fun k s hI => ?_) (by omega) ⟨rfl, FR_rf⟩
    · obtain ⟨m, s⟩ := s
      obtain ⟨i1, i2⟩ := hI
      dsimp only at i1 i2 ⊢
      have Xs : HX np nd nr t s := HX_to X (i2 16 (by decide)) (i2 17 (by decide)) (i2 18 (by decide))
      have Hs : NX n sP sH s := NX_to H (by rw [i2 13 (by decide)]) (i2 46 (by decide)) (i2 47 (by decide))
      obtain ⟨h1, f1, f2⟩ := falX V Xs Nv Hs (N := N) (by omega) (s := i) (by omega)
      have hf := fb_le (np := np) (t := t) (sP := sP) (sH := sH) (s := i) n
      have n12 := Nv.1
      left
      refine ⟨(sF (fun s => fb np t sP sH s n) (i + 1), h1), ?_, rfl, FR_tr i2 f2⟩
      show fX10_sure_c13b N (fX10_sure_c13 N k) _ _ _ = _
      unfold fX10_sure_c13b
      rw [xm1 Xs, zshl_1 np (by omega), zw_id (show -2147483648 ≤ ((2 ^ np : Nat) : Int) ∧ ((2 ^ np : Nat) : Int) < 2147483648 by omega), zw_id (show -2147483648 ≤ (i : Int) ∧ (i : Int) < 2147483648 by omega), if_neg (by omega), f1, z2_some, zw_id (show -2147483648 ≤ (fb np t sP sH i n : Int) ∧ (fb np t sP sH i n : Int) < 2147483648 by omega), i1]
      have es : sF (fun s => fb np t sP sH s n) (i + 1) = if fb np t sP sH i n = 0 then zand (sF (fun s => fb np t sP sH s n) i) (i : Int) else sF (fun s => fb np t sP sH s n) i := rfl
      rw [es]
      by_cases c1 : fb np t sP sH i n = 0
      · rw [if_pos (by omega), if_pos c1]; rfl
      · rw [if_neg (by omega), if_neg c1]; rfl
    · obtain ⟨m, s⟩ := s
      obtain ⟨i1, i2⟩ := hI
      dsimp only at i1 i2 ⊢
      have Xs : HX np nd nr t s := HX_to X (i2 16 (by decide)) (i2 17 (by decide)) (i2 18 (by decide))
      refine ⟨s, ?_, i2⟩
      show fX10_sure_c13b N (fX10_sure_c13 N k) _ _ _ = _
      unfold fX10_sure_c13b
      rw [xm1 Xs, zshl_1 np (by omega), if_pos (Int.le_refl _), i1]
  · rw [if_neg h0, if_neg h0]
    exact ⟨h, rfl, FR_rf⟩
theorem surM {np nd nr n : Nat} {t sP sH : Nat → Nat} {g : zH} (V : HV np nd nr t) (M : HM np nd nr t g) (Nv : NV np n sP sH) (H : NMo n sP sH g) {N : Nat} (hN : 100 ≤ N) : fX11_sure N g = some (if 0 < np then sF (fun s => fb np t sP sH s n) (2 ^ np) else -1) := by
  have v := V.1
  have p2 := two_np v.1
  unfold fX11_sure
  by_cases h0 : 0 < np
  · rw [if_pos h0]
    refine zloopq (F := fun k i (m : Int) => fX11_sure_c4 N g k m i) (n := 2 ^ np) (s := -1) (fun i m => m = sF (fun s => fb np t sP sH s n) i) (fun b => b = some (sF (fun s => fb np t sP sH s n) (2 ^ np))) (fun k i m hi hI => ?_) (fun k m hI => ?_) (by omega) rfl
    · have f1 := falM V M Nv H (N := N) (by omega) (s := i) (by omega)
      have hf := fb_le (np := np) (t := t) (sP := sP) (sH := sH) (s := i) n
      have n12 := Nv.1
      have hb := sF_b (f := fun s => fb np t sP sH s n) (n := i) (by omega)
      left
      refine ⟨sF (fun s => fb np t sP sH s n) (i + 1), ?_, rfl⟩
      show fX11_sure_c4b N g (fX11_sure_c4 N g k) _ _ = _
      unfold fX11_sure_c4b
      rw [M.1.1, zw_id (show -2147483648 ≤ (np : Int) ∧ (np : Int) < 2147483648 by omega), if_neg (by omega), zshl_1 np (by omega), zw_id (show -2147483648 ≤ ((2 ^ np : Nat) : Int) ∧ ((2 ^ np : Nat) : Int) < 2147483648 by omega), zw_id (show -2147483648 ≤ (i : Int) ∧ (i : Int) < 2147483648 by omega), if_neg (by omega), f1, zb_some, zw_id (show -2147483648 ≤ (fb np t sP sH i n : Int) ∧ (fb np t sP sH i n : Int) < 2147483648 by omega), hI, zw_m1]
      have es : sF (fun s => fb np t sP sH s n) (i + 1) = if fb np t sP sH i n = 0 then zand (sF (fun s => fb np t sP sH s n) i) (i : Int) else sF (fun s => fb np t sP sH s n) i := rfl
      rw [es]
      by_cases c1 : fb np t sP sH i n = 0
      · rw [if_pos (by omega), if_pos c1]
        rcases hb with hb | ⟨q, hb, hq⟩
        · rw [hb, zw_m1, if_pos rfl, zand_m1 i (by omega)]; rfl
        · rw [hb, zw_id (show -2147483648 ≤ (q : Int) ∧ (q : Int) < 2147483648 by omega), if_neg (by omega)]; rfl
      · rw [if_neg (by omega), if_neg c1]; rfl
    · show fX11_sure_c4b N g (fX11_sure_c4 N g k) _ _ = _
      unfold fX11_sure_c4b
      rw [M.1.1, zw_id (show -2147483648 ≤ (np : Int) ∧ (np : Int) < 2147483648 by omega), if_neg (by omega), zshl_1 np (by omega), if_pos (Int.le_refl _), hI]
  · obtain ⟨K, rfl⟩ : ∃ K, N = K + 1 := ⟨N - 1, by omega⟩
    rw [if_neg h0]
    show fX11_sure_c4b (K + 1) g (fX11_sure_c4 (K + 1) g K) _ _ = _
    unfold fX11_sure_c4b
    rw [M.1.1, zw_id (show -2147483648 ≤ (np : Int) ∧ (np : Int) < 2147483648 by omega), if_pos (by omega)]
theorem wroX {np nd nr n : Nat} {t sP sH : Nat → Nat} {h : zH} (V : HV np nd nr t) (X : HX np nd nr t h) (Nv : NV np n sP sH) (H : NX n sP sH h) {N : Nat} (hN : 100 ≤ N) : ∃ h', fX10_wrong N h = some (if 0 < np then (mnF 12 (fun s => fb np t sP sH s n) (2 ^ np) : Int) else -1, h') ∧ FR [48] h h' := by
  have v := V.1
  have p2 := two_np v.1
  unfold fX10_wrong
  rw [hasHillX V X, zq]
  by_cases h0 : 0 < np
  · rw [if_pos h0, if_pos h0]
    refine zloopq (F := fun k i (s : Int × zH) => fX10_wrong_c14 N k s.1 i s.2) (n := 2 ^ np) (s := (12, h)) (fun i s => s.1 = (mnF 12 (fun s => fb np t sP sH s n) i : Int) ∧ FR [48] h s.2) (fun b => ∃ h', b = some ((mnF 12 (fun s => fb np t sP sH s n) (2 ^ np) : Int), h') ∧ FR [48] h h') (fun k i s hi hI => ?_) (fun k s hI => ?_) (by omega) ⟨rfl, FR_rf⟩
    · obtain ⟨m, s⟩ := s
      obtain ⟨i1, i2⟩ := hI
      dsimp only at i1 i2 ⊢
      have Xs : HX np nd nr t s := HX_to X (i2 16 (by decide)) (i2 17 (by decide)) (i2 18 (by decide))
      have Hs : NX n sP sH s := NX_to H (by rw [i2 13 (by decide)]) (i2 46 (by decide)) (i2 47 (by decide))
      obtain ⟨h1, f1, f2⟩ := falX V Xs Nv Hs (N := N) (by omega) (s := i) (by omega)
      have hf := fb_le (np := np) (t := t) (sP := sP) (sH := sH) (s := i) n
      have n12 := Nv.1
      have hm := mnF_b (a := 12) (f := fun s => fb np t sP sH s n) (n := i)
      left
      refine ⟨((mnF 12 (fun s => fb np t sP sH s n) (i + 1) : Int), h1), ?_, rfl, FR_tr i2 f2⟩
      show fX10_wrong_c14b N (fX10_wrong_c14 N k) _ _ _ = _
      unfold fX10_wrong_c14b
      rw [xm1 Xs, zshl_1 np (by omega), zw_id (show -2147483648 ≤ ((2 ^ np : Nat) : Int) ∧ ((2 ^ np : Nat) : Int) < 2147483648 by omega), zw_id (show -2147483648 ≤ (i : Int) ∧ (i : Int) < 2147483648 by omega), if_neg (by omega), f1, z2_some, zlet_v, i1, min_eq (zw_id (by omega)) (zw_id (by omega))]
      have es : mnF 12 (fun s => fb np t sP sH s n) (i + 1) = if mnF 12 (fun s => fb np t sP sH s n) i ≤ fb np t sP sH i n then mnF 12 (fun s => fb np t sP sH s n) i else fb np t sP sH i n := rfl
      rw [es]
      by_cases c1 : mnF 12 (fun s => fb np t sP sH s n) i ≤ fb np t sP sH i n
      · rw [if_pos (by omega), if_pos c1]; rfl
      · rw [if_neg (by omega), if_neg c1]; rfl
    · obtain ⟨m, s⟩ := s
      obtain ⟨i1, i2⟩ := hI
      dsimp only at i1 i2 ⊢
      have Xs : HX np nd nr t s := HX_to X (i2 16 (by decide)) (i2 17 (by decide)) (i2 18 (by decide))
      refine ⟨s, ?_, i2⟩
      show fX10_wrong_c14b N (fX10_wrong_c14 N k) _ _ _ = _
      unfold fX10_wrong_c14b
      rw [xm1 Xs, zshl_1 np (by omega), if_pos (Int.le_refl _), i1]
  · rw [if_neg h0, if_neg h0]
    exact ⟨h, rfl, FR_rf⟩
theorem wroM {np nd nr n : Nat} {t sP sH : Nat → Nat} {g : zH} (V : HV np nd nr t) (M : HM np nd nr t g) (Nv : NV np n sP sH) (H : NMo n sP sH g) {N : Nat} (hN : 100 ≤ N) : fX11_wrong N g = some (if 0 < np then (mnF 12 (fun s => fb np t sP sH s n) (2 ^ np) : Int) else -1) := by
  have v := V.1
  have p2 := two_np v.1
  have n12 := Nv.1
  unfold fX11_wrong
  rw [M.1.1, zw_id (show -2147483648 ≤ (np : Int) ∧ (np : Int) < 2147483648 by omega)]
  by_cases h0 : 0 < np
  · rw [if_pos h0, if_neg (by omega), zlet_v, H.1, mnF_eq (a := 12) (b := n) (f := fun s => fb np t sP sH s n) (Nat.le_trans (fb_le n) n12) (fb_le n) p2.2]
    refine zloopq (F := fun k i (m : Int) => fX11_wrong_c16 N g k m i) (n := 2 ^ np) (s := (n : Int)) (fun i m => m = (mnF n (fun s => fb np t sP sH s n) i : Int)) (fun b => b = some (mnF n (fun s => fb np t sP sH s n) (2 ^ np) : Int)) (fun k i m hi hI => ?_) (fun k m hI => ?_) (by omega) rfl
    · have f1 := falM V M Nv H (N := N) (by omega) (s := i) (by omega)
      have hf := fb_le (np := np) (t := t) (sP := sP) (sH := sH) (s := i) n
      have hm := mnF_b (a := n) (f := fun s => fb np t sP sH s n) (n := i)
      left
      refine ⟨(mnF n (fun s => fb np t sP sH s n) (i + 1) : Int), ?_, rfl⟩
      show fX11_wrong_c16b N g (fX11_wrong_c16 N g k) _ _ = _
      unfold fX11_wrong_c16b
      rw [M.1.1, zshl_1 np (by omega), zw_id (show -2147483648 ≤ ((2 ^ np : Nat) : Int) ∧ ((2 ^ np : Nat) : Int) < 2147483648 by omega), zw_id (show -2147483648 ≤ (i : Int) ∧ (i : Int) < 2147483648 by omega), if_neg (by omega), f1, zb_some, zlet_v, hI, min_eq (zw_id (by omega)) (zw_id (by omega))]
      have es : mnF n (fun s => fb np t sP sH s n) (i + 1) = if mnF n (fun s => fb np t sP sH s n) i ≤ fb np t sP sH i n then mnF n (fun s => fb np t sP sH s n) i else fb np t sP sH i n := rfl
      rw [es]
      by_cases c1 : mnF n (fun s => fb np t sP sH s n) i ≤ fb np t sP sH i n
      · rw [if_pos (by omega), if_pos c1]; rfl
      · rw [if_neg (by omega), if_neg c1]; rfl
    · show fX11_wrong_c16b N g (fX11_wrong_c16 N g k) _ _ = _
      unfold fX11_wrong_c16b
      rw [M.1.1, zshl_1 np (by omega), if_pos (Int.le_refl _), hI]
  · rw [if_neg h0, if_pos (by omega)]
/-- works: the hours of the log, the earliest first -/
def hk (L : List (Nat × Nat)) (k : Nat) : Nat := (L.getD (min 60 L.length - 1 - k) (0, 0)).1
def sk (L : List (Nat × Nat)) (i : Nat) : Nat → Nat
  | 0 => 0
  | n + 1 => sk L i n + hk L (i + n)
def wk (L : List (Nat × Nat)) (n : Nat) : Nat → Int × Int
  | 0 => (-1, -1)
  | i + 1 => if (sk L i n : Int) ≤ (wk L n i).2 then wk L n i else ((i : Int), (sk L i n : Int))
theorem hk_b {np nd nr : Nat} {t : Nat → Nat} {a : hSt} (A : AV np nd nr t a) (k : Nat) : hk (aL a) k < 1000 := by
  unfold hk
  rw [List.getD_eq_getElem?_getD]
  cases h : (aL a)[min 60 (aL a).length - 1 - k]? with
  | none => show (0 : Nat) < 1000; decide
  | some e => exact (A.2.2.2.2 e (List.mem_of_getElem? h)).1
theorem sk_b {np nd nr : Nat} {t : Nat → Nat} {a : hSt} (A : AV np nd nr t a) (i n : Nat) : sk (aL a) i n ≤ 1000 * n := by
  induction n with
  | zero => exact Nat.zero_le _
  | succ n ih =>
    have := hk_b A (i + n)
    unfold sk
    omega
theorem wk_b {np nd nr : Nat} {t : Nat → Nat} {a : hSt} (A : AV np nd nr t a) {n : Nat} (hn : n ≤ 9) (i : Nat) : -1 ≤ (wk (aL a) n i).2 ∧ (wk (aL a) n i).2 ≤ 9000 ∧ -1 ≤ (wk (aL a) n i).1 ∧ (wk (aL a) n i).1 < i + 1 := by
  induction i with
  | zero => show -1 ≤ (-1 : Int) ∧ (-1 : Int) ≤ 9000 ∧ -1 ≤ (-1 : Int) ∧ (-1 : Int) < ((0 : Nat) : Int) + 1; omega
  | succ i ih =>
    have := sk_b A i n
    unfold wk
    split
    · omega
    · show -1 ≤ (sk (aL a) i n : Int) ∧ (sk (aL a) i n : Int) ≤ 9000 ∧ -1 ≤ (i : Int) ∧ (i : Int) < ((i + 1 : Nat) : Int) + 1
      omega
theorem hoursX {np nd nr : Nat} {t : Nat → Nat} {a : hSt} {h : zH} (A : AV np nd nr t a) (S : XS np t a (h 30)) (D : XD (aL a) (h 31)) (hl : (aL a).length ≤ 420) {k : Nat} (hk1 : k < min 60 (aL a).length) : fX8_hoursOfLight 7 (k : Int) h = (hk (aL a) k : Int) := by
  have e50 : h 30 50 = ((aL a).length : Int) := S.2.2.2.2
  have eL : fX8_logLength 7 h = (min 60 (aL a).length : Nat) := by
    show fJ9_min_7cf53 (h 30 50) 60 = _
    rw [e50, min_eq (zw_id (by omega)) zw_60]
    split <;> omega
  show zshr (fX10_at 31 ((h 30 50 - fX8_logLength 7 h) + (k : Int)) h) 6 = _
  rw [eL, e50, at_in (by omega) (by show _ < ((420 : Nat) : Int); omega)]
  have d := D (min 60 (aL a).length - 1 - k) (by omega)
  have b := hk_b A k
  have bw : ((aL a).getD (min 60 (aL a).length - 1 - k) (0, 0)).2 < 64 := by
    rw [List.getD_eq_getElem?_getD]
    cases hh : (aL a)[min 60 (aL a).length - 1 - k]? with
    | none => show (0 : Nat) < 64; decide
    | some e => exact (A.2.2.2.2 e (List.mem_of_getElem? hh)).2
  rw [show (((aL a).length : Int) - ((min 60 (aL a).length : Nat) : Int) + (k : Int)).toNat = (aL a).length - 1 - (min 60 (aL a).length - 1 - k) by omega, d]
  have e2 := zshr_eq ((64 * ((aL a).getD (min 60 (aL a).length - 1 - k) (0, 0)).1 + ((aL a).getD (min 60 (aL a).length - 1 - k) (0, 0)).2 : Nat) : Int) 6 (by decide)
  rw [show ((6 : Nat) : Int) = 6 from rfl] at e2
  unfold hk at b ⊢
  rw [e2, zw_id (by omega)]
  omega
