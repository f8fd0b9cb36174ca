/-! rows that rest, the class's -/
theorem fl_len {P : Nat → Bool} (n : Nat) : (fl P n).length ≤ n := by
  have := List.length_filter_le P (List.range n)
  rw [List.length_range] at this
  exact this
theorem fl_mem {P : Nat → Bool} {n j : Nat} (hj : j < (fl P n).length) : (fl P n).getD j 0 < n ∧ P ((fl P n).getD j 0) = true := by
  have h : (fl P n).getD j 0 ∈ fl P n := by
    rw [List.getD_eq_getElem?_getD, List.getElem?_eq_getElem hj]
    exact List.getElem_mem _
  obtain ⟨a, b⟩ := List.mem_filter.mp h
  exact ⟨List.mem_range.mp a, b⟩
theorem pop_tab : ∀ f : Nat, f < 256 → ∀ b : Nat, b < 8 → (fl (f ||| 2 ^ b).testBit 8).length ≤ (fl f.testBit 8).length + 1 := by decide +kernel
abbrev fK (f : Nat) : Nat := (fl f.testBit 8).length
abbrev fG (f j : Nat) : Nat := (fl f.testBit 8).getD j 0
theorem fK_le {np nd nr : Nat} {t : Nat → Nat} (V : HV np nd nr t) (k : Nat) (hk : k ≤ np) : fK (fmk t k) ≤ k := by
  induction k with
  | zero =>
    show (fl (Nat.testBit 0) 8).length ≤ 0
    decide
  | succ k ih =>
    have v := V.2.2.2.1 k (by omega)
    have v1 := V.1
    have := pop_tab (fmk t k) (by have := fmk_lt V k (by omega); omega) (t (32 + 4 * k)) (by omega)
    have : (fl (fmk t k).testBit 8).length ≤ k := ih (by omega)
    show (fl (fmk t k ||| 2 ^ t (32 + 4 * k)).testBit 8).length ≤ k + 1
    omega
theorem fK_pos {np nd nr : Nat} {t : Nat → Nat} (V : HV np nd nr t) (h0 : 0 < np) : 0 < fK (fmk t np) := by
  have v := V.2.2.2.1 0 h0
  have v1 := V.1
  have hm : t (32 + 4 * 0) ∈ fl (fmk t np).testBit 8 := List.mem_filter.mpr ⟨List.mem_range.mpr (by omega), (fmk_t np).mpr ⟨0, h0, rfl⟩⟩
  exact List.length_pos_of_mem hm
theorem fG_nr {np nd nr : Nat} {t : Nat → Nat} (V : HV np nd nr t) {j : Nat} (hj : j < fK (fmk t np)) : fG (fmk t np) j < nr := by
  obtain ⟨p, hp, e⟩ := (fmk_t np).mp (fl_mem hj).2
  have v := V.2.2.2.1 p hp
  show (fl (fmk t np).testBit 8).getD j 0 < nr
  omega
theorem zs_45 {h : zH} {j : Nat} {x : Int} (hj : j < 8) : fX10_put 45 (j : Int) x h = zs h 45 j x := by
  rw [put_in (by omega) (by show _ < ((8 : Nat) : Int); omega), Int.toNat_natCast]
theorem listX {np nd nr : Nat} {t : Nat → Nat} {h : zH} (V : HV np nd nr t) (X : HX np nd nr t h) {N : Nat} (hN : 20 ≤ N) : ∃ h', fX6_listForms N 2 h = some h' ∧ FR [12, 45] h h' ∧ FS 12 [2] h h' ∧ h' 12 2 = (fK (fmk t np) : Int) ∧ ∀ j, j < fK (fmk t np) → h' 45 j = (fG (fmk t np) j : Int) := by
  have f8 := fmk_lt V np (Nat.le_refl np)
  unfold fX6_listForms
  rw [formsX V X (by omega), zb_some, zlet_v]
  generalize fmk t np = f at f8 ⊢
  refine zloopq (F := fun m r (s : zH) => fX6_listForms_c12 N 2 m (f : Int) r s) (n := 8) (s := zs h 12 2 0) (fun r s => FR [12, 45] h s ∧ FS 12 [2] h s ∧ s 12 2 = ((fl f.testBit r).length : Int) ∧ ∀ j, j < (fl f.testBit r).length → s 45 j = ((fl f.testBit r).getD j 0 : Nat)) (fun q => ∃ h', q = some h' ∧ FR [12, 45] h h' ∧ FS 12 [2] h h' ∧ h' 12 2 = (fK f : Int) ∧ ∀ j, j < fK f → h' 45 j = (fG f j : Int)) (fun m r s hr hI => ?_) (fun m s hI => ?_) (show 8 < N by omega) ⟨FR_zs FR_rf (by decide), fun j hj => zs_ne (fun e => hj (by rw [e]; decide)), zs_at, fun j hj => absurd hj (by show ¬ j < 0; omega)⟩
  · obtain ⟨hF, hS, h2, h45⟩ := hI
    left
    show ∃ s', fX6_listForms_c12b N 2 (fX6_listForms_c12 N 2 m) (f : Int) (r : Int) s = _ ∧ _
    unfold fX6_listForms_c12b
    rw [show zw 8 = 8 by decide, zw_n9 (show r < 1000000000 by omega), if_neg (by omega), isIn8 (by omega) (by omega)]
    have hl := fl_len (P := f.testBit) r
    by_cases c : f.testBit r = true
    · rw [if_pos c, if_neg (show ¬ zw 1 = 0 by decide), h2, zs_45 (by omega), zlet_v, zlet_v]
      refine ⟨zs (zs s 45 (fl f.testBit r).length (r : Int)) 12 2 ((zs s 45 (fl f.testBit r).length (r : Int)) 12 2 + 1), rfl, FR_zs (FR_zs hF (by decide)) (by decide), fun j hj => ?_, ?_, fun j hj => ?_⟩
      · rw [zs_ne (fun e => hj (by rw [e]; decide)), zs_row_ne (by decide)]
        exact hS j hj
      · rw [zs_at, zs_row_ne (by decide), h2, fl_s, if_pos c, List.length_append]; rfl
      · rw [zs_row_ne (by decide), fl_s, if_pos c, getD_snoc]
        rw [fl_s, if_pos c, List.length_append] at hj
        have hj : j < (fl f.testBit r).length + 1 := hj
        by_cases e : j = (fl f.testBit r).length
        · rw [e, zs_at, if_neg (by omega), if_pos rfl]
        · rw [zs_ne e, if_pos (by omega)]
          exact h45 j (by omega)
    · rw [if_neg c, if_pos zw_0]
      refine ⟨s, rfl, hF, hS, ?_, ?_⟩
      · rw [fl_s, if_neg c, List.append_nil]; exact h2
      · rw [fl_s, if_neg c, List.append_nil]; exact h45
  · obtain ⟨hF, hS, h2, h45⟩ := hI
    refine ⟨s, ?_, hF, hS, h2, h45⟩
    show fX6_listForms_c12b N 2 (fX6_listForms_c12 N 2 m) (f : Int) ((8 : Nat) : Int) s = _
    unfold fX6_listForms_c12b
    rw [if_pos (by decide)]
/-- the n-th row of m signs -/
def nthR (f : Nat) : Nat → Nat → Nat
  | 0, _ => 0
  | m + 1, left => fG f (left % fK f) + 10 * nthR f m (left / fK f)
theorem nthR_ch {f : Nat} (m left p : Nat) : chR (m + 1) (nthR f (m + 1) left) p = if p = m then fG f (left % fK f) else chR m (nthR f m (left / fK f)) p := by
  have hb : fG f (left % fK f) < 10 := by
    by_cases h : left % fK f < fK f
    · have := (fl_mem (P := f.testBit) (n := 8) h).1
      show (fl f.testBit 8).getD (left % fK f) 0 < 10
      omega
    · show (fl f.testBit 8).getD (left % fK f) 0 < 10
      rw [List.getD_eq_getElem?_getD, List.getElem?_eq_none (show (fl f.testBit 8).length ≤ left % fK f from Nat.le_of_not_lt h)]
      exact (by decide : 0 < 10)
  show (if p = m then (fG f (left % fK f) + 10 * nthR f m (left / fK f)) % 10 else chR m ((fG f (left % fK f) + 10 * nthR f m (left / fK f)) / 10) p) = _
  rw [show (fG f (left % fK f) + 10 * nthR f m (left / fK f)) % 10 = fG f (left % fK f) by omega, show (fG f (left % fK f) + 10 * nthR f m (left / fK f)) / 10 = nthR f m (left / fK f) by omega]
theorem nthX {N f : Nat} (h0 : 0 < fK f) (m : Nat) : ∀ (left F : Nat) (l3 tens : Int) (h : zH), m ≤ 6 → left < 2147483648 → m < F → h 12 2 = (fK f : Int) → (∀ j, j < fK f → h 45 j = (fG f j : Int)) → ∃ h', fX6_chooseNth_c17 N 2 F l3 tens (left : Int) ((m : Int) - 1) h = some (l3 + tens * (nthR f m left : Int), h') ∧ FR [44] h h' ∧ (∀ p, m ≤ p → h' 44 p = h 44 p) ∧ ∀ p, p < m → h' 44 p = (chR m (nthR f m left) p : Int) := by
  have k8 : fK f ≤ 8 := fl_len (P := f.testBit) 8
  induction m with
  | zero =>
    intro left F l3 tens h hm hl hF h2 h45
    obtain ⟨F, rfl⟩ : ∃ F', F = F' + 1 := ⟨F - 1, by omega⟩
    refine ⟨h, ?_, FR_rf, fun p _ => rfl, fun p hp => absurd hp (by omega)⟩
    show fX6_chooseNth_c17b N 2 (fX6_chooseNth_c17 N 2 F) l3 tens (left : Int) (0 - 1) h = _
    unfold fX6_chooseNth_c17b nthR
    rw [if_pos (by decide)]
    show some (l3, h) = some (l3 + tens * 0, h)
    rw [Int.mul_zero, Int.add_zero]
  | succ m ih =>
    intro left F l3 tens h hm hl hF h2 h45
    obtain ⟨F, rfl⟩ : ∃ F', F = F' + 1 := ⟨F - 1, by omega⟩
    have hmod : left % fK f < fK f := Nat.mod_lt _ h0
    have hdiv : left / fK f < 2147483648 := Nat.lt_of_le_of_lt (Nat.div_le_self _ _) hl
    have r1 : zrem (left : Int) (fK f : Int) = ((left % fK f : Nat) : Int) := by rw [zrem_pos (by omega) (by omega) (by omega) (by omega)]; exact (Int.natCast_emod _ _).symm
    have r2 : zdiv (left : Int) (fK f : Int) = ((left / fK f : Nat) : Int) := by rw [zdiv_pos (by omega) (by omega) (by omega) (by omega)]; exact (Int.natCast_ediv _ _).symm
    have a45 : fX10_at 45 ((left % fK f : Nat) : Int) h = (fG f (left % fK f) : Int) := by
      rw [at_in (by omega) (by show _ < ((8 : Nat) : Int); omega), Int.toNat_natCast]; exact h45 _ hmod
    have e2 : (zs h 44 m (fG f (left % fK f) : Int)) 12 2 = (fK f : Int) := by rw [zs_row_ne (by decide)]; exact h2
    have a44 : fX10_at 44 (m : Int) (zs h 44 m (fG f (left % fK f) : Int)) = (fG f (left % fK f) : Int) := by
      rw [at_in (by omega) (by show _ < ((6 : Nat) : Int); omega), Int.toNat_natCast, zs_at]
    obtain ⟨h', i1, i2, i3, i4⟩ := ih (left / fK f) F (l3 + (fG f (left % fK f) : Int) * tens) (tens * 10) (zs h 44 m (fG f (left % fK f) : Int)) (by omega) hdiv (by omega) e2 (fun j hj => by rw [zs_row_ne (by decide)]; exact h45 j hj)
    refine ⟨h', ?_, FR_tr (FR_zs FR_rf (by decide)) i2, fun p hp => ?_, fun p hp => ?_⟩
    · show fX6_chooseNth_c17b N 2 (fX6_chooseNth_c17 N 2 F) l3 tens (left : Int) (((m + 1 : Nat) : Int) - 1) h = _
      unfold fX6_chooseNth_c17b
      rw [show ((m + 1 : Nat) : Int) - 1 = (m : Int) by omega, zw_n9 (show m < 1000000000 by omega), if_neg (by omega), h2, zw_n9 (show fK f < 1000000000 by omega), if_neg (by omega), if_pos (by omega), r1, a45, put44 (by omega), zlet_v, a44, zlet_v, e2, zw_n9 (show fK f < 1000000000 by omega), if_pos (by omega), r2, zlet_v, show (m : Int) + -1 = (m : Int) - 1 by omega, i1]
      have : l3 + (fG f (left % fK f) : Int) * tens + tens * 10 * (nthR f m (left / fK f) : Int) = l3 + tens * ((fG f (left % fK f) + 10 * nthR f m (left / fK f) : Nat) : Int) := by
        rw [Int.natCast_add, Int.natCast_mul, Int.mul_add, Int.mul_comm _ tens, Int.mul_assoc, Int.add_assoc]; rfl
      rw [this]; rfl
    · rw [i3 p (by omega), zs_ne (by omega)]
    · rw [nthR_ch]
      by_cases e : p = m
      · rw [if_pos e, e, i3 m (Nat.le_refl _), zs_at]
      · rw [if_neg e]; exact i4 p (by omega)
theorem range_ad (a b : Nat) : List.range (a + b) = List.range a ++ (List.range b).map (a + ·) := by
  induction b with
  | zero => simp
  | succ b ih => rw [← Nat.add_assoc, List.range_succ, ih, List.range_succ, List.map_append, List.append_assoc]; rfl
theorem map_getD (l : List Nat) : (List.range l.length).map (fun d => l.getD d 0) = l := by
  induction l with
  | nil => rfl
  | cons x l ih =>
    rw [show (x :: l).length = 1 + l.length by show l.length + 1 = _; omega, range_ad, List.map_append, List.map_map]
    show x :: (List.range l.length).map (fun d => (x :: l).getD (1 + d) 0) = _
    rw [show (fun d => (x :: l).getD (1 + d) 0) = (fun d => l.getD d 0) from funext fun d => by rw [Nat.add_comm]; rfl, ih]
/-- the signs behind a row -/
def gR (f b : Nat) : List Nat := (fl f.testBit 8).map (fun e => e + 10 * b)
theorem rowsA {f : Nat} (h0 : 0 < fK f) (m n : Nat) : (List.range (fK f * n)).map (nthR f (m + 1)) = ((List.range n).map (nthR f m)).flatMap (gR f) := by
  induction n with
  | zero => rfl
  | succ n ih =>
    rw [Nat.mul_succ, range_ad, List.map_append, ih, List.range_succ, List.map_append, List.flatMap_append, List.map_map]
    congr 1
    have e : (List.range (fK f)).map (nthR f (m + 1) ∘ (fK f * n + ·)) = (List.range (fK f)).map ((fun e => e + 10 * nthR f m n) ∘ (fun d => (fl f.testBit 8).getD d 0)) := by
      apply List.map_congr_left
      intro d hd
      have hd := List.mem_range.mp hd
      show fG f ((fK f * n + d) % fK f) + 10 * nthR f m ((fK f * n + d) / fK f) = fG f d + 10 * nthR f m n
      rw [Nat.mul_add_mod, Nat.mod_eq_of_lt hd, Nat.mul_add_div h0, Nat.div_eq_of_lt hd, Nat.add_zero]
    rw [e, ← List.map_map, map_getD]
    show _ = gR f (nthR f m n) ++ []
    rw [List.append_nil]; rfl
theorem bit_8 {f e : Nat} (hf : f < 256) (he : 8 ≤ e) : f.testBit e = false := Nat.testBit_lt_two_pow (Nat.lt_of_lt_of_le hf (by
  have := Nat.pow_le_pow_right (show 0 < 2 by decide) he
  omega))
theorem fl_10 {f : Nat} (hf : f < 256) : fl f.testBit 10 = fl f.testBit 8 := by
  rw [fl_s, fl_s, if_neg (by rw [bit_8 hf (by decide)]; decide), if_neg (by rw [bit_8 hf (by decide)]; decide), List.append_nil, List.append_nil]
theorem rowsB {f : Nat} (hf : f < 256) (m n : Nat) : (List.range (10 * n)).filter (vR f (m + 1)) = ((List.range n).filter (vR f m)).flatMap (gR f) := by
  induction n with
  | zero => rfl
  | succ n ih =>
    rw [Nat.mul_succ, range_ad, List.filter_append, ih, List.range_succ (n := n), List.filter_append, List.flatMap_append, List.filter_map]
    congr 1
    have e : (List.range 10).filter (vR f (m + 1) ∘ (10 * n + ·)) = (List.range 10).filter (fun d => f.testBit d && vR f m n) := by
      apply List.filter_congr
      intro d hd
      have hd := List.mem_range.mp hd
      show (f.testBit ((10 * n + d) % 10) && vR f m ((10 * n + d) / 10)) = _
      rw [show (10 * n + d) % 10 = d by omega, show (10 * n + d) / 10 = n by omega]
    rw [e]
    by_cases c : vR f m n = true
    · rw [List.filter_cons_of_pos c]
      show _ = gR f n ++ []
      rw [List.append_nil, c]
      have : (fun d => f.testBit d && true) = f.testBit := funext fun d => Bool.and_true _
      rw [this]
      show (fl f.testBit 10).map _ = _
      rw [fl_10 hf]
      unfold gR
      apply List.map_congr_left
      intro d _
      exact Nat.add_comm _ _
    · rw [List.filter_cons_of_neg c]
      have c' : vR f m n = false := Bool.eq_false_iff.mpr c
      rw [c']
      have : (fun d => f.testBit d && false) = fun _ => false := funext fun d => Bool.and_false _
      rw [this]
      rfl
theorem rows_eq {f : Nat} (hf : f < 256) (h0 : 0 < fK f) (m : Nat) : (List.range (fK f ^ m)).map (nthR f m) = (List.range (10 ^ m)).filter (vR f m) := by
  induction m with
  | zero => rfl
  | succ m ih => rw [Nat.pow_succ, Nat.mul_comm, rowsA h0, ih, Nat.pow_succ, Nat.mul_comm, rowsB hf]
/-- the first n of them that rest -/
def lstR (np nr : Nat) (t : Nat → Nat) (n : Nat) : List Nat := ((List.range n).map (nthR (fmk t np) np)).filter (fun x => rstB np nr t (fun p => (chR np x p : Int)))
theorem lstR_s {np nr : Nat} {t : Nat → Nat} {n : Nat} : lstR np nr t (n + 1) = lstR np nr t n ++ (if rstB np nr t (fun p => (chR np (nthR (fmk t np) np n) p : Int)) = true then [nthR (fmk t np) np n] else []) := by
  unfold lstR
  rw [List.range_succ, List.map_append, List.filter_append]
  congr 1
  generalize hP : (fun x => rstB np nr t (fun p => (chR np x p : Int))) = P
  rw [show rstB np nr t (fun p => (chR np (nthR (fmk t np) np n) p : Int)) = P (nthR (fmk t np) np n) by rw [← hP]]
  show List.filter P [nthR (fmk t np) np n] = _
  by_cases h : P (nthR (fmk t np) np n) = true
  · rw [if_pos h, List.filter_cons_of_pos h]; rfl
  · rw [if_neg h, List.filter_cons_of_neg h]; rfl
theorem lstR_all {np nd nr : Nat} {t : Nat → Nat} (V : HV np nd nr t) (h0 : 0 < np) : lstR np nr t (fK (fmk t np) ^ np) = rstL np nr t := by
  unfold lstR rstL
  have f8 := fmk_lt V np (Nat.le_refl np)
  rw [rows_eq (by omega) (fK_pos V h0), List.filter_filter]
  apply List.filter_congr
  intro x _
  exact Bool.and_comm _ _
theorem lstR_len {np nr : Nat} {t : Nat → Nat} (n : Nat) : (lstR np nr t n).length ≤ n := by
  unfold lstR
  have := List.length_filter_le (fun x => rstB np nr t (fun p => (chR np x p : Int))) ((List.range n).map (nthR (fmk t np) np))
  rw [List.length_map, List.length_range] at this
  exact this
