/-! the tape and the readers' places in it -/
def TX (n : Nat) (b : Nat → Nat) (h : zH) : Prop := h 1 1 = (n : Int) ∧ ∀ i, i < n → h 15 i = (b i : Int)
def TMo (n : Nat) (b : Nat → Nat) (g : zH) : Prop := g 14 2 = (n : Int) ∧ ∀ i, i < n → g 49 i = (b i : Int)
def TV (n : Nat) (b : Nat → Nat) : Prop := n ≤ 240 ∧ ∀ i, i < n → 1 ≤ b i ∧ b i ≤ 255
def sg (n : Nat) (b : Nat → Nat) (p : Nat) : Int := if p < n then (b p : Int) else -1
def skF (n : Nat) (b : Nat → Nat) : Nat → Nat → Nat
  | 0, p => p
  | k + 1, p => if p < n ∧ b p = 32 then skF n b k (p + 1) else p
def skp (n : Nat) (b : Nat → Nat) (p : Nat) : Nat := skF n b (n - p) p
theorem skp_y {n p : Nat} {b : Nat → Nat} (h : p < n) (hb : b p = 32) : skp n b p = skp n b (p + 1) := by
  unfold skp
  rw [show n - p = (n - (p + 1)) + 1 by omega]
  exact if_pos ⟨h, hb⟩
theorem skp_n {n p : Nat} {b : Nat → Nat} (h : ¬ (p < n ∧ b p = 32)) : skp n b p = p := by
  unfold skp
  cases n - p with
  | zero => rfl
  | succ k => exact if_neg h
theorem skF_b {n : Nat} {b : Nat → Nat} (k : Nat) : ∀ p, p ≤ n → k = n - p → p ≤ skF n b k p ∧ skF n b k p ≤ n ∧ sg n b (skF n b k p) ≠ 32 := by
  induction k with
  | zero =>
    intro p hp hk
    refine ⟨Nat.le_refl _, hp, ?_⟩
    show sg n b p ≠ 32
    unfold sg
    rw [if_neg (by omega)]
    decide
  | succ k ih =>
    intro p hp hk
    unfold skF
    by_cases hc : p < n ∧ b p = 32
    · rw [if_pos hc]
      obtain ⟨i1, i2, i3⟩ := ih (p + 1) (by omega) (by omega)
      exact ⟨by omega, i2, i3⟩
    · rw [if_neg hc]
      refine ⟨Nat.le_refl _, hp, ?_⟩
      unfold sg
      rw [if_pos (by omega)]
      intro e
      exact hc ⟨by omega, by omega⟩
theorem skp_b {n p : Nat} {b : Nat → Nat} (hp : p ≤ n) : p ≤ skp n b p ∧ skp n b p ≤ n ∧ sg n b (skp n b p) ≠ 32 := skF_b (n - p) p hp rfl
theorem sg_b {n p : Nat} {b : Nat → Nat} (T : TV n b) : -1 ≤ sg n b p ∧ sg n b p ≤ 255 := by
  unfold sg
  split
  · rename_i h
    have := T.2 p h
    omega
  · omega
theorem sg_w {n p : Nat} {b : Nat → Nat} (T : TV n b) : zw (sg n b p) = sg n b p := by
  have := sg_b (p := p) T
  exact zw_id (by omega)
theorem sg_lt {n p : Nat} {b : Nat → Nat} (h : sg n b p ≠ -1) : p < n := by
  unfold sg at h
  by_cases hc : p < n
  · exact hc
  · rw [if_neg hc] at h; exact absurd rfl h
theorem TX_to {n : Nat} {b : Nat → Nat} {h h' : zH} (H : TX n b h) (e1 : h' 1 1 = h 1 1) (e15 : h' 15 = h 15) : TX n b h' := by
  unfold TX at *; rw [e1, e15]; exact H
theorem TM_to {n : Nat} {b : Nat → Nat} {h h' : zH} (H : TMo n b h) (e1 : h' 14 2 = h 14 2) (e15 : h' 49 = h 49) : TMo n b h' := by
  unfold TMo at *; rw [e1, e15]; exact H
theorem at15 {n p : Nat} {b : Nat → Nat} {h : zH} (T : TV n b) (H : TX n b h) (hp : p < n) : fX10_at 15 (p : Int) h = (b p : Int) := by
  have := T.1
  rw [at_in (by omega) (by show _ < ((240 : Nat) : Int); omega), Int.toNat_natCast]
  exact H.2 p hp
/-- the class's next sign, behind blanks -/
theorem nextX {n : Nat} {b : Nat → Nat} (T : TV n b) {N : Nat} (hN : 300 ≤ N) {h : zH} (H : TX n b h) {p : Nat} (hp : p ≤ n) (hpl : h 1 2 = (p : Int)) {f : Int} (hf : h 1 3 = f) (hfb : -1 ≤ f ∧ f ≤ 1000) : ∃ h', fX9_next N h = some (if f = -1 then sg n b (skp n b p) else -1, h') ∧ FR [1] h h' ∧ FS 1 [2] h h' ∧ h' 1 2 = (skp n b p : Int) := by
  have n240 := T.1
  have key : ∀ (m p F : Nat) (s : zH), n - p = m → p ≤ n → m < F → FR [1] h s → FS 1 [2] h s → s 1 2 = (p : Int) → ∃ h', fX9_next_c0 N F s = some (if f = -1 then sg n b (skp n b p) else -1, h') ∧ FR [1] h h' ∧ FS 1 [2] h h' ∧ h' 1 2 = (skp n b p : Int) := by
    intro m
    induction m with
    | zero =>
      intro p F s hm hp hF F1 F2 e2
      obtain ⟨F', rfl⟩ : ∃ F', F = F' + 1 := ⟨F - 1, by omega⟩
      have hpn : p = n := by omega
      subst hpn
      have e1 : s 1 1 = (p : Int) := by rw [F2 1 (by decide)]; exact H.1
      have e3 : s 1 3 = f := by rw [F2 3 (by decide)]; exact hf
      have es : skp p b p = p := skp_n (by omega)
      refine ⟨s, ?_, F1, F2, by rw [es]; exact e2⟩
      show fX9_next_c0b N (fX9_next_c0 N F') s = _
      unfold fX9_next_c0b
      rw [e1, e2, e3, es, if_pos (Int.le_refl _), zw_id (show -2147483648 ≤ f ∧ f < 2147483648 by omega), zw_m1, if_neg (show ¬ zw (p : Int) < zw (p : Int) by omega)]
      have : sg p b p = -1 := if_neg (Nat.lt_irrefl p)
      rw [this]
      by_cases c : f = -1
      · rw [if_pos c, if_pos c]
      · rw [if_neg c, if_neg c]
    | succ m ih =>
      intro p F s hm hp hF F1 F2 e2
      obtain ⟨F', rfl⟩ : ∃ F', F = F' + 1 := ⟨F - 1, by omega⟩
      have e1 : s 1 1 = (n : Int) := by rw [F2 1 (by decide)]; exact H.1
      have e3 : s 1 3 = f := by rw [F2 3 (by decide)]; exact hf
      have Hs : TX n b s := TX_to H (F2 1 (by decide)) (F1 15 (by decide))
      have hb := T.2 p (by omega)
      have ea := at15 T Hs (show p < n by omega)
      by_cases c32 : b p = 32
      · rw [skp_y (by omega) c32]
        obtain ⟨h', r1, r2, r3, r4⟩ := ih (p + 1) F' (zs s 1 2 (((p + 1 : Nat)) : Int)) (by omega) (by omega) (by omega) (FR_tr F1 (fun b hb => zs_row_ne (fun e => hb (by rw [e]; decide)))) (FS_tr F2 (fun j hj => zs_ne (fun e => hj (by rw [e]; decide)))) zs_at
        refine ⟨h', ?_, r2, r3, r4⟩
        show fX9_next_c0b N (fX9_next_c0 N F') s = _
        unfold fX9_next_c0b
        rw [e1, e2, ea, zw_id (show -2147483648 ≤ (n : Int) ∧ (n : Int) < 2147483648 by omega), zw_id (show -2147483648 ≤ (p : Int) ∧ (p : Int) < 2147483648 by omega), if_neg (by omega), c32, if_pos (show zw ((32 : Nat) : Int) = zw 32 from rfl), zlet_v]
        exact r1
      · have es : skp n b p = p := skp_n (fun hc => c32 hc.2)
        refine ⟨s, ?_, F1, F2, by rw [es]; exact e2⟩
        show fX9_next_c0b N (fX9_next_c0 N F') s = _
        unfold fX9_next_c0b
        rw [e1, e2, e3, es, ea, zw_id (show -2147483648 ≤ (n : Int) ∧ (n : Int) < 2147483648 by omega), zw_id (show -2147483648 ≤ (p : Int) ∧ (p : Int) < 2147483648 by omega), if_neg (by omega), zw_id (show -2147483648 ≤ (b p : Int) ∧ (b p : Int) < 2147483648 by omega), show zw 32 = 32 by decide, if_neg (by omega), zw_id (show -2147483648 ≤ f ∧ f < 2147483648 by omega), zw_m1, if_pos (show (p : Int) < (n : Int) by omega)]
        have : sg n b p = (b p : Int) := if_pos (by omega)
        rw [this]
        by_cases c : f = -1
        · rw [if_pos c, if_pos c]
        · rw [if_neg c, if_neg c]
  exact key (n - p) p N h rfl hp (by omega) FR_rf FS_rf hpl
/-- the reference's next sign, behind blanks -/
theorem hereM {n p : Nat} {b : Nat → Nat} (T : TV n b) {g : zH} (H : TMo n b g) (hpl : g 14 3 = (p : Int)) (hp : p < 100000) : fX11_here g = some (sg n b p) := by
  have n240 := T.1
  unfold fX11_here sg
  rw [H.1, hpl, zw_id (show -2147483648 ≤ (n : Int) ∧ (n : Int) < 2147483648 by omega), zw_id (show -2147483648 ≤ (p : Int) ∧ (p : Int) < 2147483648 by omega)]
  by_cases h1 : p < n
  · rw [if_neg (by omega), if_pos h1, if_pos (by omega), Int.toNat_natCast, H.2 p h1]
  · rw [if_pos (by omega), if_neg h1]
theorem lookM {n : Nat} {b : Nat → Nat} (T : TV n b) {N : Nat} (hN : 300 ≤ N) {g : zH} (H : TMo n b g) {p : Nat} (hp : p < 100000) (hpl : g 14 3 = (p : Int)) : ∃ g', fX11_look N g = some (sg n b (skp n b p), g') ∧ FR [14] g g' ∧ FS 14 [3] g g' ∧ g' 14 3 = (skp n b p : Int) := by
  have n240 := T.1
  have key : ∀ (m p F : Nat) (s : zH), n - p = m → p < 100000 → m < F → FR [14] g s → FS 14 [3] g s → s 14 3 = (p : Int) → ∃ g', fX11_look_c0 N F s = some (sg n b (skp n b p), g') ∧ FR [14] g g' ∧ FS 14 [3] g g' ∧ g' 14 3 = (skp n b p : Int) := by
    intro m
    induction m with
    | zero =>
      intro p F s hm hp hF F1 F2 e3
      obtain ⟨F', rfl⟩ : ∃ F', F = F' + 1 := ⟨F - 1, by omega⟩
      have Hs : TMo n b s := TM_to H (F2 2 (by decide)) (F1 49 (by decide))
      have es : skp n b p = p := skp_n (by omega)
      have e0 : sg n b p = -1 := if_neg (by omega)
      refine ⟨s, ?_, F1, F2, by rw [es]; exact e3⟩
      show fX11_look_c0b N (fX11_look_c0 N F') s = _
      unfold fX11_look_c0b
      rw [hereM T Hs e3 hp, zb_some, es, e0, if_neg (by decide)]
      rfl
    | succ m ih =>
      intro p F s hm hp hF F1 F2 e3
      obtain ⟨F', rfl⟩ : ∃ F', F = F' + 1 := ⟨F - 1, by omega⟩
      have Hs : TMo n b s := TM_to H (F2 2 (by decide)) (F1 49 (by decide))
      have hb := T.2 p (by omega)
      have e0 : sg n b p = (b p : Int) := if_pos (by omega)
      by_cases c32 : b p = 32
      · rw [skp_y (by omega) c32]
        obtain ⟨h', r1, r2, r3, r4⟩ := ih (p + 1) F' (zs s 14 3 (((p + 1 : Nat)) : Int)) (by omega) (by omega) (by omega) (FR_tr F1 (fun b hb => zs_row_ne (fun e => hb (by rw [e]; decide)))) (FS_tr F2 (fun j hj => zs_ne (fun e => hj (by rw [e]; decide)))) zs_at
        refine ⟨h', ?_, r2, r3, r4⟩
        show fX11_look_c0b N (fX11_look_c0 N F') s = _
        unfold fX11_look_c0b
        rw [hereM T Hs e3 hp, zb_some, e0, c32, if_pos (show zw ((32 : Nat) : Int) = zw 32 from rfl), zlet_v, e3]
        exact r1
      · have es : skp n b p = p := skp_n (fun hc => c32 hc.2)
        refine ⟨s, ?_, F1, F2, by rw [es]; exact e3⟩
        show fX11_look_c0b N (fX11_look_c0 N F') s = _
        unfold fX11_look_c0b
        rw [hereM T Hs e3 hp, zb_some, es, e0, zw_id (show -2147483648 ≤ (b p : Int) ∧ (b p : Int) < 2147483648 by omega), show zw 32 = 32 by decide, if_neg (by omega)]
        rfl
  exact key (n - p) p N g rfl hp (by omega) FR_rf FS_rf hpl
theorem isDX {c : Int} (hc : zw c = c) : fX9_isDigit c = if 48 ≤ c ∧ c ≤ 57 then 1 else 0 := by
  unfold fX9_isDigit
  rw [hc, show zw 48 = 48 by decide, show zw 57 = 57 by decide]
  by_cases h1 : c < 48
  · rw [if_pos h1, if_neg (by omega)]
  · rw [if_neg h1]
    by_cases h2 : 57 < c
    · rw [if_pos h2, if_neg (by omega)]
    · rw [if_neg h2, if_pos (by omega)]
theorem isDM {c : Int} (hc : zw c = c) : fX11_isDigit c = if 48 ≤ c ∧ c ≤ 57 then 1 else 0 := by
  unfold fX11_isDigit
  rw [hc, show zw 48 = 48 by decide, show zw 57 = 57 by decide]
  by_cases h1 : c < 48
  · rw [if_pos h1, if_neg (by omega)]
  · rw [if_neg h1]
    by_cases h2 : 57 < c
    · rw [if_pos h2, if_neg (by omega)]
    · rw [if_neg h2, if_pos (by omega)]
theorem blameX {h : zH} {f v : Int} (hf : h 1 3 = f) (hfb : -1 ≤ f ∧ f ≤ 1000) : fX9_blame v h = if f = -1 then zs h 1 3 v else h := by
  unfold fX9_blame
  rw [hf, zw_id (show -2147483648 ≤ f ∧ f < 2147483648 by omega), zw_m1]
  rfl
theorem badM {g : zH} (hf : g 14 4 = -1) : fX11_bad g = zs g 14 4 (g 14 3) := by
  unfold fX11_bad
  rw [hf, if_pos rfl]
  rfl
theorem RT_T {h : zH} (H : RT h) : ∃ (n : Nat) (b : Nat → Nat), TV n b ∧ TX n b h ∧ TMo n b h := by
  obtain ⟨h1, h2, h3, h4⟩ := H
  obtain ⟨n, hn⟩ := Int.eq_ofNat_of_zero_le h2.1
  refine ⟨n, fun i => (h 15 i).toNat, ⟨by omega, fun i hi => ?_⟩, ⟨hn, fun i hi => ?_⟩, ⟨by rw [← h1]; exact hn, fun i hi => ?_⟩⟩
  · have := h4 i (by omega)
    dsimp only
    omega
  · have := h4 i (by omega)
    dsimp only
    omega
  · have := h4 i (by omega)
    rw [← h3 i (by omega)]
    dsimp only
    omega
