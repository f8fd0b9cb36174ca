/-! what the Statement gives at the start: the static arrays, the texts, the classes -/
theorem zSv_len : ∀ i, i < 4 → (zSv i).length < 2 ^ 31 := by decide
theorem lw_st1 : ∀ i, i < 4 → (Cond.laysStatic "SunDesk$Hill" (zSn i) "[I") ∈ lw_tbl := by decide +kernel
theorem lw_st2 : ∀ i, i < 4 → (Cond.arrayOf (.static "SunDesk$Hill" (zSn i) "[I") .int) ∈ flatC (Jvm.Cond.and given_1 narrow_1) := by decide +kernel
theorem lw_st3 : ∀ i, i < 4 → (Cond.eq (.length (.static "SunDesk$Hill" (zSn i) "[I")) (.int (Int32.ofNat (zSv i).length))) ∈ flatC (Jvm.Cond.and given_1 narrow_1) := by decide +kernel
theorem lw_st4 : ∀ i, i < 4 → ∀ j, j < (zSv i).length → (Cond.eq (.elem (.static "SunDesk$Hill" (zSn i) "[I") (.int (Int32.ofNat j))) (.int (zi ((zSv i).getD j 0)))) ∈ flatC (Jvm.Cond.and given_1 narrow_1) := by decide +kernel
def lwTm (i : Nat) : Term := .string (zTx i).1 (zTx i).2.1
theorem lw_tx0 : ∀ i, i < 4 → (Cond.stringRef (zTx i).1 (zTx i).2.1 (zTx i).2.2) ∈ lw_tbl := by decide +kernel
theorem lw_tx1 : ∀ i, i < 4 → (Cond.exactly (lwTm i) "java/lang/String") ∈ flatC (Jvm.Cond.and given_1 narrow_1) := by decide +kernel
theorem lw_tx2 : ∀ i, i < 4 → (Cond.eq (.field (lwTm i) "java/lang/String" "coder" "B") (.int 0)) ∈ flatC (Jvm.Cond.and given_1 narrow_1) := by decide +kernel
theorem lw_tx3 : ∀ i, i < 4 → (Cond.arrayOf (.field (lwTm i) "java/lang/String" "value" "[B") .byte) ∈ flatC (Jvm.Cond.and given_1 narrow_1) := by decide +kernel
theorem lw_tx4 : ∀ i, i < 4 → (Cond.eq (.length (.field (lwTm i) "java/lang/String" "value" "[B")) (.int (Int32.ofNat (([4, 16, 7, 3] : List Nat).getD i 0)))) ∈ flatC (Jvm.Cond.and given_1 narrow_1) := by decide +kernel
theorem lw_tx5 : ∀ i, i < 4 → ∀ j, j < ([4, 16, 7, 3] : List Nat).getD i 0 → (Cond.eq (.elem (.field (lwTm i) "java/lang/String" "value" "[B") (.int (Int32.ofNat j))) (.int (((([(zTb 0).map zi, (zTb 1).map zi, (zTb 2).map zi, (zTb 3).map zi] : List (List Int32)).getD i []).getD j 0)))) ∈ flatC (Jvm.Cond.and given_1 narrow_1) := by decide +kernel
theorem lw_tx6 : ∀ i, i < 4 → ∀ j, j < 4 → i ≠ j → (Cond.not (Cond.eq (lwTm i) (lwTm j))) ∈ flatC (Jvm.Cond.and given_1 narrow_1) ∨ (Cond.not (Cond.eq (lwTm j) (lwTm i))) ∈ flatC (Jvm.Cond.and given_1 narrow_1) := by decide +kernel
theorem lw_zq1 : ∀ i, i < 3 → (Cond.laysStatic (zZq i).1 (zZq i).2.1 (zZq i).2.2) ∈ lw_tbl := by decide +kernel
theorem lw_zq2 : ∀ i, i < 3 → (Cond.initialized (zZq i).1) ∈ lw_tbl := by decide +kernel
theorem lw_zq3 : ∀ i, i < 3 → (Cond.isRef (.static (zZq i).1 (zZq i).2.1 (zZq i).2.2)) ∈ flatC (Jvm.Cond.and given_1 narrow_1) := by decide +kernel
theorem lw_cs1 : (Cond.laysStatic "java/lang/String" "COMPACT_STRINGS" "Z") ∈ lw_tbl := by decide +kernel
theorem lw_cs2 : (Cond.eq (.static "java/lang/String" "COMPACT_STRINGS" "Z") (.int 1)) ∈ flatC (Jvm.Cond.and given_1 narrow_1) := by decide +kernel
theorem lw_zG {s : State} {b : Nat} {A : Nat → Prop} (hA : ∀ a : Nat, a < s.heap.size → ¬ A a) (hts : ∀ w ∈ lw_tbl, w.before #[Value.ref b] s = true) (hgv : (Jvm.Cond.and given_1 narrow_1).before #[Value.ref b] s = true) : ∃ σ : zSg, zG σ A s s.heap := by
  have hs := flat_of_before _ hgv
  have h1 : ∀ i, ∃ t : Nat, i < 4 → va_Z "SunDesk$Hill" (zSn i) "[I" (.ref t) A s s.heap ∧ va_T .int t (zSv i).length (fun j => .int (zi ((zSv i).getD j 0))) A s s.heap := by
    intro i
    by_cases hi : i < 4
    · obtain ⟨t, ht, hT⟩ := va_Tof (f := fun j => .int (zi ((zSv i).getD j 0))) (A := A) (zSv_len i hi) (hs _ (lw_st2 i hi)) (va_eqt (hs _ (lw_st3 i hi))) (fun j hj => va_eqt (hs _ (lw_st4 i hi j hj))) hA
      exact ⟨t, fun _ => ⟨va_Zof (hts _ (lw_st1 i hi)) (hts _ q_3) ht hA, hT⟩⟩
    · exact ⟨0, fun h => absurd h hi⟩
  obtain ⟨s1, hs1⟩ := Classical.axiomOfChoice h1
  obtain ⟨adK, adV, h2, h3⟩ := vk_Sof (N := 4) (tm := lwTm) (len := [4, 16, 7, 3]) (byt := [(zTb 0).map zi, (zTb 1).map zi, (zTb 2).map zi, (zTb 3).map zi]) (A := A) (by decide) (fun i hi => hs _ (lw_tx1 i hi)) (fun i hi => hs _ (lw_tx2 i hi)) (fun i hi => hs _ (lw_tx3 i hi)) (fun i hi => hs _ (lw_tx4 i hi)) (fun i hi j hj => hs _ (lw_tx5 i hi j hj)) (fun i j hi hj hij => (lw_tx6 i hi j hj hij).elim (fun h => Or.inl (hs _ h)) (fun h => Or.inr (hs _ h))) hA
  refine ⟨(s1, adK, adV), fun i hi => hs1 i hi, va_Zof (hts _ lw_cs1) (hts _ q_15) (va_eqt (hs _ lw_cs2)) hA, h2, fun i hi => vk_R.of (hts _ (lw_tx0 i hi)) (h3 i hi), fun i hi => va_Zqof (hts _ (lw_zq1 i hi)) (hts _ (lw_zq2 i hi)) (hs _ (lw_zq3 i hi)) hA, fun w hw => ?_⟩
  have hw1 := List.mem_filter.mp hw
  have hw2 : w.onTables = true := by
    have := hw1.2
    cases w <;> first | rfl | cases this
  exact va_Nw.of hw2 (hts w hw1.1)
theorem lw_K {s : State} {b : Nat} (hts : ∀ w ∈ lw_tbl, w.before #[Value.ref b] s = true) : ∃ (D : va_G) (cy : ClassId), va_K D vwCl [(cy, .int)] s := by
  have hts2 : ∀ w ∈ zTb', w.before #[Value.ref b] s = true := fun w hw => hts w (List.mem_filter.mp hw).1
  obtain ⟨c0, i0, k0⟩ := u_known (n := 3) hts2 clX0.2.1 (hts _ q_199)
  obtain ⟨c1, i1, k1⟩ := u_known (n := 3) hts2 clX1.2.1 (hts _ q_61)
  obtain ⟨c2, i2, k2⟩ := u_known (n := 5) hts2 clX2.2.1 (hts _ q_153)
  obtain ⟨c3, i3, k3⟩ := u_known (n := 1) hts2 clX3.2.1 (hts _ q_216)
  obtain ⟨c4, i4, k4⟩ := u_known (n := 13) hts2 clX4.2.1 (hts _ q_77)
  obtain ⟨c5, i5, k5⟩ := u_known (n := 6) hts2 clX5.2.1 (hts _ q_125)
  obtain ⟨c6, i6, k6⟩ := u_known (n := 6) hts2 clX6.2.1 (hts _ q_226)
  obtain ⟨c7, i7, k7⟩ := u_known (n := 4) hts2 clX7.2.1 (hts _ q_252)
  obtain ⟨c8, i8, k8⟩ := u_known (n := 4) hts2 clX8.2.1 (hts _ q_176)
  obtain ⟨c9, i9, k9⟩ := u_known (n := 4) hts2 clX9.2.1 (hts _ q_34)
  obtain ⟨c10, i10, k10⟩ := u_known (n := 16) hts2 clX10.2.1 (hts _ q_26)
  obtain ⟨c11, i11, k11⟩ := u_known (n := 50) hts2 clX11.2.1 (hts _ q_1097)
  obtain ⟨cy, kA, comp, e1, e2, e3⟩ := Cond.arrayClass_spec (hts _ q_59)
  refine ⟨(fun c => (([c0, c1, c2, c3, c4, c5, c6, c7, c8, c9, c10, c11] : List ClassId)).getD c c0, fun c => (([i0, i1, i2, i3, i4, i5, i6, i7, i8, i9, i10, i11] : List (Nat → Nat))).getD c i0), cy, fun c q hq => ?_, fun k q hq => ?_⟩
  · have hc : c < 12 := (List.getElem?_eq_some_iff.mp hq).1
    have : c = 0 ∨ c = 1 ∨ c = 2 ∨ c = 3 ∨ c = 4 ∨ c = 5 ∨ c = 6 ∨ c = 7 ∨ c = 8 ∨ c = 9 ∨ c = 10 ∨ c = 11 := by omega
    rcases this with rfl | rfl | rfl | rfl | rfl | rfl | rfl | rfl | rfl | rfl | rfl | rfl
    · cases hq; exact k0
    · cases hq; exact k1
    · cases hq; exact k2
    · cases hq; exact k3
    · cases hq; exact k4
    · cases hq; exact k5
    · cases hq; exact k6
    · cases hq; exact k7
    · cases hq; exact k8
    · cases hq; exact k9
    · cases hq; exact k10
    · cases hq; exact k11
  · have hk : k < 1 := (List.getElem?_eq_some_iff.mp hq).1
    have hk0 : k = 0 := by omega
    subst hk0; cases hq
    exact ⟨fun n z => ⟨fun k h => (by cases h), kA, e2, comp, e3⟩, e1⟩
