/-! the reference works a rule out -/
abbrev m1 (M : List (Int × Int)) : List Int := M.map Prod.fst
abbrev m2 (M : List (Int × Int)) : List Int := M.map Prod.snd
theorem m1_len {M : List (Int × Int)} : (m1 M).length = M.length := List.length_map _
theorem m2_len {M : List (Int × Int)} : (m2 M).length = M.length := List.length_map _
def EM (e : zE) : Prop := ∀ (N k ρ to i : Nat) (L : Nat → Int) (st : List Int) (g : zH), LB L → ρ < 5 → to ≤ 520 → (∀ j, j < 7 → g 57 j = L j) → sgm (g 58) 0 st → st.length + eN e ≤ 48 → i + (eM e).length ≤ to → sgm (g 50) (520 * ρ + i) (m1 (eM e)) → sgm (g 51) (520 * ρ + i) (m2 (eM e)) → ∃ g', fX11_workOut_c12 N (k + (eM e).length) (ρ : Int) (to : Int) (st.length : Int) ((520 * ρ + i : Nat) : Int) g = fX11_workOut_c12 N k (ρ : Int) (to : Int) ((st.length + 1 : Nat) : Int) ((520 * ρ + (i + (eM e).length) : Nat) : Int) g' ∧ FR [58] g g' ∧ sgm (g' 58) 0 (st ++ [eV e L])
theorem sm_put {r : zH} {st : List Int} {v : Int} (H : sgm (r 58) 0 st) : sgm (zs r 58 st.length v 58) 0 (st ++ [v]) := by
  refine sgm_mk (fun j hj => ?_) (fun j hj => ?_)
  · rw [Nat.zero_add, zs_ne (by omega)]
    have := H j hj
    rw [Nat.zero_add] at this
    exact this
  · have : j = 0 := by simp at hj; omega
    subst this
    rw [Nat.zero_add, Nat.add_zero, zs_at]
    rfl
theorem sm_last {r : zH} {st : List Int} {v : Int} (H : sgm (r 58) 0 (st ++ [v])) : r 58 st.length = v ∧ sgm (r 58) 0 st := by
  refine ⟨?_, sgm_l H⟩
  have := sgm_1 (sgm_r H)
  rw [Nat.zero_add] at this
  exact this
theorem mNum {N k ρ to i t v : Nat} {g : zH} (hρ : ρ < 5) (hto : to ≤ 520) (hi : i < to) (ht : t < 80) (h50 : g 50 (520 * ρ + i) = 0) : fX11_workOut_c12 N (k + 1) (ρ : Int) (to : Int) (t : Int) ((520 * ρ + i : Nat) : Int) g = fX11_workOut_c12 N k (ρ : Int) (to : Int) ((t + 1 : Nat) : Int) ((520 * ρ + i + 1 : Nat) : Int) (zs g 58 t (g 51 (520 * ρ + i))) := by
  show fX11_workOut_c12b N (fX11_workOut_c12 N k) _ _ _ _ g = _
  unfold fX11_workOut_c12b fX11_workOut_c45
  rw [show (520 * (ρ : Int)) + (to : Int) = ((520 * ρ + to : Nat) : Int) by omega, zw_id (show -2147483648 ≤ ((520 * ρ + to : Nat) : Int) ∧ ((520 * ρ + to : Nat) : Int) < 2147483648 by omega), zw_id (show -2147483648 ≤ ((520 * ρ + i : Nat) : Int) ∧ ((520 * ρ + i : Nat) : Int) < 2147483648 by omega), if_neg (by omega), if_pos (by omega), Int.toNat_natCast, h50, if_pos zw_0, if_pos zw_0, if_pos (by omega), zw_id (show -2147483648 ≤ (t : Int) ∧ (t : Int) < 2147483648 by omega), if_pos (by omega), if_pos (by omega), Int.toNat_natCast, zlet_v]
  rfl
theorem mLet {N k ρ to i t v : Nat} {g : zH} (hρ : ρ < 5) (hto : to ≤ 520) (hi : i < to) (ht : t < 80) (h50 : g 50 (520 * ρ + i) = 1) (h51 : g 51 (520 * ρ + i) = (v : Int)) (hv : v < 7) : fX11_workOut_c12 N (k + 1) (ρ : Int) (to : Int) (t : Int) ((520 * ρ + i : Nat) : Int) g = fX11_workOut_c12 N k (ρ : Int) (to : Int) ((t + 1 : Nat) : Int) ((520 * ρ + i + 1 : Nat) : Int) (zs g 58 t (g 57 v)) := by
  show fX11_workOut_c12b N (fX11_workOut_c12 N k) _ _ _ _ g = _
  unfold fX11_workOut_c12b fX11_workOut_c45
  rw [show (520 * (ρ : Int)) + (to : Int) = ((520 * ρ + to : Nat) : Int) by omega, zw_id (show -2147483648 ≤ ((520 * ρ + to : Nat) : Int) ∧ ((520 * ρ + to : Nat) : Int) < 2147483648 by omega), zw_id (show -2147483648 ≤ ((520 * ρ + i : Nat) : Int) ∧ ((520 * ρ + i : Nat) : Int) < 2147483648 by omega), if_neg (by omega), if_pos (by omega), Int.toNat_natCast, h50, if_neg (show ¬ zw 1 = 0 by decide), if_pos (by omega), if_pos rfl, if_neg (show ¬ zw 1 = 0 by decide), h51, zw_id (show -2147483648 ≤ (v : Int) ∧ (v : Int) < 2147483648 by omega), if_pos (by omega), if_pos (by omega), Int.toNat_natCast, if_pos (by omega), zw_id (show -2147483648 ≤ (t : Int) ∧ (t : Int) < 2147483648 by omega), if_pos (by omega), Int.toNat_natCast, zlet_v]
  rfl
theorem mNot {N k ρ to i t : Nat} {g : zH} (hρ : ρ < 5) (hto : to ≤ 520) (hi : i < to) (ht : t < 80) (h50 : g 50 (520 * ρ + i) = 9) : fX11_workOut_c12 N (k + 1) (ρ : Int) (to : Int) ((t + 1 : Nat) : Int) ((520 * ρ + i : Nat) : Int) g = fX11_workOut_c12 N k (ρ : Int) (to : Int) ((t + 1 : Nat) : Int) ((520 * ρ + i + 1 : Nat) : Int) (zs g 58 t (1 - g 58 t)) := by
  show fX11_workOut_c12b N (fX11_workOut_c12 N k) _ _ _ _ g = _
  unfold fX11_workOut_c12b
  rw [show (520 * (ρ : Int)) + (to : Int) = ((520 * ρ + to : Nat) : Int) by omega, zw_id (show -2147483648 ≤ ((520 * ρ + to : Nat) : Int) ∧ ((520 * ρ + to : Nat) : Int) < 2147483648 by omega), zw_id (show -2147483648 ≤ ((520 * ρ + i : Nat) : Int) ∧ ((520 * ρ + i : Nat) : Int) < 2147483648 by omega), if_neg (by omega), if_pos (by omega), Int.toNat_natCast, h50, if_neg (show ¬ zw 9 = 0 by decide), if_pos (by omega), if_neg (show ¬ zw 9 = zw 1 by decide), if_pos (by omega), if_pos rfl, show ((t + 1 : Nat) : Int) - 1 = (t : Int) by omega, zw_id (show -2147483648 ≤ (t : Int) ∧ (t : Int) < 2147483648 by omega), if_pos (by omega), if_pos (by omega), Int.toNat_natCast, zlet_v]
  rfl
theorem mOp {N k ρ to i t : Nat} {g : zH} {s m x y : Int} (hs : opOK s m) (hxy : opV m x y) (hρ : ρ < 5) (hto : to ≤ 520) (hi : i < to) (ht : t + 1 < 80) (h50 : g 50 (520 * ρ + i) = m) (hx : g 58 t = x) (hy : g 58 (t + 1) = y) : fX11_workOut_c12 N (k + 1) (ρ : Int) (to : Int) ((t + 2 : Nat) : Int) ((520 * ρ + i : Nat) : Int) g = fX11_workOut_c12 N k (ρ : Int) (to : Int) ((t + 1 : Nat) : Int) ((520 * ρ + i + 1 : Nat) : Int) (zs g 58 t (vop m x y)) := by
  show fX11_workOut_c12b N (fX11_workOut_c12 N k) _ _ _ _ g = _
  unfold fX11_workOut_c12b
  have hm : ¬ zw m = 0 ∧ ¬ zw m = zw 1 ∧ ¬ zw m = zw 9 := by
    rcases hs with h | h | h | h | h | h | h | h | h <;> (obtain ⟨_, rfl⟩ := h) <;> decide
  have wx : zw x = x := zw_id (by have := hxy.1; omega)
  have wy : zw y = y := zw_id (by have := hxy.2.1; omega)
  rw [show (520 * (ρ : Int)) + (to : Int) = ((520 * ρ + to : Nat) : Int) by omega, zw_id (show -2147483648 ≤ ((520 * ρ + to : Nat) : Int) ∧ ((520 * ρ + to : Nat) : Int) < 2147483648 by omega), zw_id (show -2147483648 ≤ ((520 * ρ + i : Nat) : Int) ∧ ((520 * ρ + i : Nat) : Int) < 2147483648 by omega), if_neg (by omega), if_pos (by omega), Int.toNat_natCast, h50, if_neg hm.1, if_pos (by omega), if_neg hm.2.1, if_pos (by omega), if_neg hm.2.2, if_pos (by omega), show ((t + 2 : Nat) : Int) + (-1) = ((t + 1 : Nat) : Int) by omega, show ((t + 1 : Nat) : Int) - 1 = (t : Int) by omega, zw_id (show -2147483648 ≤ (t : Int) ∧ (t : Int) < 2147483648 by omega), zw_id (show -2147483648 ≤ ((t + 1 : Nat) : Int) ∧ ((t + 1 : Nat) : Int) < 2147483648 by omega), if_pos (by omega), if_pos (by omega), Int.toNat_natCast, Int.toNat_natCast, hx, hy, wx, wy, workedM hs hxy, zb_some, if_pos (by omega), zlet_v]
  rfl
theorem EM_num {v : Int} : EM (eNum v) := by
  intro N k ρ to i L st g hL hρ hto hl S hn hi G1 G2
  have hn : st.length + 1 ≤ 48 := hn
  have hi : i + 1 ≤ to := hi
  have a1 : g 50 (520 * ρ + i) = 0 := sgm_1 G1
  have a2 : g 51 (520 * ρ + i) = v := sgm_1 G2
  refine ⟨zs g 58 st.length v, ?_, fun b hb => zs_row_ne (fun e => hb (by rw [e]; decide)), sm_put S⟩
  have := mNum (N := N) (k := k) (v := 0) hρ hto (by omega) (show st.length < 80 by omega) a1
  rw [a2] at this
  exact this
theorem EM_let {k : Nat} (hk : k < 7) : EM (eLet k) := by
  intro N k' ρ to i L st g hL hρ hto hl S hn hi G1 G2
  have hn : st.length + 1 ≤ 48 := hn
  have hi : i + 1 ≤ to := hi
  have a1 : g 50 (520 * ρ + i) = 1 := sgm_1 G1
  have a2 : g 51 (520 * ρ + i) = (k : Int) := sgm_1 G2
  refine ⟨zs g 58 st.length (L k), ?_, fun b hb => zs_row_ne (fun e => hb (by rw [e]; decide)), sm_put S⟩
  have := mLet (N := N) (k := k') hρ hto (by omega) (show st.length < 80 by omega) a1 a2 hk
  rw [hl k hk] at this
  exact this
theorem EM_not {a : zE} (A : EM a) (h1a : 1 ≤ eN a) : EM (eNot a) := by
  intro N k ρ to i L st g hL hρ hto hl S hn hi G1 G2
  have hlen : (eM (eNot a)).length = (eM a).length + 1 := by
    show (eM a ++ [(9, 0)]).length = _
    rw [List.length_append]; rfl
  rw [hlen] at hi ⊢
  have hn : st.length + eN a ≤ 48 := hn
  have e1 : m1 (eM (eNot a)) = m1 (eM a) ++ [9] := List.map_append
  have e2 : m2 (eM (eNot a)) = m2 (eM a) ++ [0] := List.map_append
  rw [e1] at G1
  rw [e2] at G2
  obtain ⟨g1, a1, a2, a3⟩ := A N (k + 1) ρ to i L st g hL hρ hto hl S hn (by omega) (sgm_l G1) (sgm_l G2)
  obtain ⟨s1, s2⟩ := sm_last a3
  have hp : g1 50 (520 * ρ + (i + (eM a).length)) = 9 := by
    have := sgm_1 (sgm_r G1)
    rw [m1_len] at this
    rw [a2 50 (by decide), ← Nat.add_assoc]; exact this
  refine ⟨zs g1 58 st.length (1 - eV a L), ?_, FR_tr a2 (fun b hb => zs_row_ne (fun e => hb (by rw [e]; decide))), sm_put s2⟩
  have := mNot (N := N) (k := k) hρ hto (show i + (eM a).length < to by omega) (show st.length < 80 by omega) hp
  rw [s1] at this
  rw [show k + ((eM a).length + 1) = k + 1 + (eM a).length by omega, a1, this]
  rfl
theorem EM_bin {s m : Int} (hs : opOK s m) {a c : zE} (A : EM a) (B : EM c) (h1a : 1 ≤ eN a) (h1c : 1 ≤ eN c) (hv : ∀ L, LB L → opV m (eV a L) (eV c L)) : EM (eBin s m a c) := by
  intro N k ρ to i L st g hL hρ hto hl S hn hi G1 G2
  have hlen : (eM (eBin s m a c)).length = (eM a).length + ((eM c).length + 1) := by
    show (eM a ++ (eM c ++ [(m, 0)])).length = _
    rw [List.length_append, List.length_append]; rfl
  rw [hlen] at hi ⊢
  have hn : st.length + max (eN a) (eN c + 1) ≤ 48 := hn
  have e1 : m1 (eM (eBin s m a c)) = m1 (eM a) ++ (m1 (eM c) ++ [m]) := by
    show (eM a ++ (eM c ++ [(m, 0)])).map Prod.fst = _
    rw [List.map_append, List.map_append]; rfl
  have e2 : m2 (eM (eBin s m a c)) = m2 (eM a) ++ (m2 (eM c) ++ [0]) := by
    show (eM a ++ (eM c ++ [(m, 0)])).map Prod.snd = _
    rw [List.map_append, List.map_append]; rfl
  rw [e1] at G1
  rw [e2] at G2
  obtain ⟨g1, a1, a2, a3⟩ := A N (k + 1 + (eM c).length) ρ to i L st g hL hρ hto hl S (by omega) (by omega) (sgm_l G1) (sgm_l G2)
  have G1' := sgm_r G1
  have G2' := sgm_r G2
  rw [m1_len] at G1'
  rw [m2_len] at G2'
  have hl3 : (st ++ [eV a L]).length = st.length + 1 := by rw [List.length_append]; rfl
  obtain ⟨g2, b1, b2, b3⟩ := B N (k + 1) ρ to (i + (eM a).length) L (st ++ [eV a L]) g1 hL hρ hto (fun j hj => by rw [a2 57 (by decide)]; exact hl j hj) a3 (by rw [hl3]; omega) (by omega) (by rw [a2 50 (by decide), ← Nat.add_assoc]; exact sgm_l G1') (by rw [a2 51 (by decide), ← Nat.add_assoc]; exact sgm_l G2')
  rw [hl3] at b1
  obtain ⟨t1, t2⟩ := sm_last b3
  obtain ⟨t3, t4⟩ := sm_last t2
  rw [hl3] at t1
  have hp : g2 50 (520 * ρ + (i + (eM a).length + (eM c).length)) = m := by
    have := sgm_1 (sgm_r G1')
    rw [m1_len] at this
    rw [b2 50 (by decide), a2 50 (by decide), show 520 * ρ + (i + (eM a).length + (eM c).length) = 520 * ρ + i + (eM a).length + (eM c).length by omega]; exact this
  refine ⟨zs g2 58 st.length (vop m (eV a L) (eV c L)), ?_, FR_tr a2 (FR_tr b2 (fun b hb => zs_row_ne (fun e => hb (by rw [e]; decide)))), sm_put t4⟩
  have := mOp (N := N) (k := k) hs (hv L hL) hρ hto (show i + (eM a).length + (eM c).length < to by omega) (show st.length + 1 < 80 by omega) hp t3 t1
  rw [show k + ((eM a).length + ((eM c).length + 1)) = k + 1 + (eM c).length + (eM a).length by omega, a1, b1, this, show i + ((eM a).length + ((eM c).length + 1)) = i + (eM a).length + (eM c).length + 1 by omega]
  rfl
