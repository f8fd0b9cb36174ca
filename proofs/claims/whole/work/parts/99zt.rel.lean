/-! the relation of class and reference -/
/-- whether nobody is better off by choosing otherwise -/
def betB (np : Nat) (t : Nat → Nat) (ch : Nat → Int) (p v : Nat) : Bool := decide (por np t ch p < por np t (fun q => if q = p then (v : Int) else ch q) p)
def rstB (np nr : Nat) (t : Nat → Nat) (ch : Nat → Int) : Bool := (List.range np).all (fun p => (List.range nr).all (fun v => !((fmk t np).testBit v && betB np t ch p v)))
/-- the rows that rest, rising -/
def rstL (np nr : Nat) (t : Nat → Nat) : List Nat := (List.range (10 ^ np)).filter (fun x => vR (fmk t np) np x && rstB np nr t (fun p => (chR np x p : Int)))
def SHr (nn np nr : Nat) (t : Nat → Nat) (h : zH) : Prop := h 12 5 = 0 ∨ (h 12 5 = 1 ∧ nn = zN + 1 ∧ (0 < np ∧ np ≤ 5) ∧ h 12 4 = ((rstL np nr t).length : Int) ∧ ∀ i, i < (rstL np nr t).length → h 76 i = ((rstL np nr t).getD i 0 : Nat))
/-- the data of both: the hill, the world, the image, orders, sights, rules, which holds, the eclipse -/
abbrev rD : Type := (Nat × Nat × Nat × (Nat → Nat)) × hW × Option hSt × (Nat × (Nat → Nat) × (Nat → Int)) × (Nat × (Nat → Nat) × (Nat → Nat)) × (Nat × (Nat → List rCl)) × Int × Int
def RVd (D : rD) : Prop := HV D.1.1 D.1.2.1 D.1.2.2.1 D.1.2.2.2 ∧ WOK D.1.1 D.1.2.1 D.1.2.2.1 D.1.2.2.2 D.2.1 ∧ (∀ a, D.2.2.1 = some a → AOK D.1.1 D.1.2.1 D.1.2.2.1 D.1.2.2.2 a) ∧ OV D.2.2.2.1.1 D.2.2.2.1.2.1 D.2.2.2.1.2.2 ∧ NV D.1.1 D.2.2.2.2.1.1 D.2.2.2.2.1.2.1 D.2.2.2.2.1.2.2 ∧ RVl D.2.2.2.2.2.1.1 D.2.2.2.2.2.1.2 ∧ (-1 ≤ D.2.2.2.2.2.2.1 ∧ D.2.2.2.2.2.2.1 < D.2.2.2.2.2.1.1) ∧ (0 ≤ D.2.2.2.2.2.2.2 ∧ D.2.2.2.2.2.2.2 ≤ 99)
def RCd (nn lim : Nat) (D : rD) (h : zH) : Prop := CW D.1.1 D.1.2.1 D.1.2.2.1 D.1.2.2.2 lim D.2.1 h ∧ CI D.1.1 D.1.2.2.2 D.2.2.1 h ∧ OX D.2.2.2.1.1 D.2.2.2.1.2.1 D.2.2.2.1.2.2 h ∧ NX D.2.2.2.2.1.1 D.2.2.2.2.1.2.1 D.2.2.2.2.1.2.2 h ∧ KM D.1.2.2.2 D.1.2.2.1 h ∧ (RXl D.2.2.2.2.2.1.1 D.2.2.2.2.2.1.2 h ∧ h 5 1 = D.2.2.2.2.2.2.1) ∧ h 0 14 = D.2.2.2.2.2.2.2 ∧ SHr nn D.1.1 D.1.2.2.1 D.1.2.2.2 h
def RMd (B : Nat) (D : rD) (g : zH) : Prop := MW D.1.1 D.1.2.1 D.1.2.2.1 D.1.2.2.2 B D.2.1 g ∧ MI D.1.1 B D.2.2.1 g ∧ OMo D.2.2.2.1.1 D.2.2.2.1.2.1 D.2.2.2.1.2.2 g ∧ NMo D.2.2.2.2.1.1 D.2.2.2.2.1.2.1 D.2.2.2.2.1.2.2 g ∧ (RMl D.2.2.2.2.2.1.1 D.2.2.2.2.2.1.2 g ∧ g 14 35 = D.2.2.2.2.2.2.1) ∧ g 14 36 = D.2.2.2.2.2.2.2
def Rr (nn c : Nat) (h : zH) : Prop := RT h ∧ ∃ D : rD, RVd D ∧ RCd nn (240 * c) D h ∧ RMd (1500 * c) D h
/-- the class's rows, the reference's -/
def crw : List Nat := [0, 1, 2, 3, 4, 5, 6, 7, 8, 9, 10, 11, 12, 13, 15, 16, 17, 18, 19, 20, 21, 22, 23, 24, 25, 26, 27, 28, 29, 30, 31, 32, 33, 34, 35, 36, 37, 38, 39, 40, 41, 42, 43, 44, 45, 46, 47, 48, 76]
def mrw : List Nat := [14, 49, 50, 51, 52, 53, 54, 55, 56, 57, 58, 59, 60, 61, 62, 63, 64, 65, 66, 67, 68, 69, 70, 71, 72, 73, 74, 75]
def EQr (L : List Nat) (h h' : zH) : Prop := ∀ b, b ∈ L → h' b = h b
theorem EQ_fr {L J : List Nat} {h h' : zH} (F : FR L h h') (hJ : ∀ b, b ∈ J → b ∉ L) : EQr J h h' := fun b hb => F b (hJ b hb)
theorem CI_to {np : Nat} {t : Nat → Nat} {im : Option hSt} {h h' : zH} (H : CI np t im h) (e0 : h' 0 13 = h 0 13) (e38 : h' 38 = h 38) (e39 : h' 39 = h 39) : CI np t im h' := by
  unfold CI at *
  cases im with
  | none =>
    show h' 0 13 = 0
    rw [e0]; exact H
  | some a =>
    show h' 0 13 = 1 ∧ XS np t a (h' 38) ∧ XD (aL a) (h' 39)
    rw [e0, e38, e39]; exact H
theorem MI_to {np B : Nat} {im : Option hSt} {h h' : zH} (H : MI np B im h) (e0 : h' 14 49 = h 14 49) (e75 : h' 75 = h 75) : MI np B im h' := by
  unfold MI at *
  cases im with
  | none =>
    show h' 14 49 = 0
    rw [e0]; exact H
  | some a =>
    show h' 14 49 = 1 ∧ MS np B a (h' 75)
    rw [e0, e75]; exact H
theorem MI_B {np B B' : Nat} {im : Option hSt} {h : zH} (H : MI np B im h) (hB : B ≤ B') : MI np B' im h := by
  unfold MI at *
  cases im with
  | none => exact H
  | some a => exact ⟨H.1, MS_B hB H.2⟩
theorem MW_to {np nd nr B : Nat} {t : Nat → Nat} {w : hW} {h h' : zH} (H : MW np nd nr t B w h) (e14 : h' 14 28 = h 14 28 ∧ h' 14 29 = h 14 29 ∧ h' 14 30 = h 14 30 ∧ h' 14 38 = h 14 38) (e63 : h' 63 = h 63) (e64 : h' 64 = h 64) (e65 : h' 65 = h 65) (e66 : h' 66 = h 66) (e69 : h' 69 = h 69) (e70 : h' 70 = h 70) : MW np nd nr t B w h' := by
  obtain ⟨h1, h2, h3⟩ := H
  refine ⟨HM_to h1 ⟨e14.1, e14.2.1, e14.2.2.1⟩ e63 e64 e65 e66, by rw [e69]; exact h2, ?_⟩
  unfold AMo at *
  rw [e14.2.2.2, e70]; exact h3
theorem KM_to {t : Nat → Nat} {nr : Nat} {h h' : zH} (H : KM t nr h) (e : h' 43 = h 43) : KM t nr h' := by
  unfold KM at *
  rw [e]; exact H
theorem RXl_to {nl : Nat} {lw : Nat → List rCl} {h h' : zH} (H : RXl nl lw h) (e5 : h' 5 0 = h 5 0) (e24 : h' 24 = h 24) (e25 : h' 25 = h 25) : RXl nl lw h' := by
  unfold RXl at *
  rw [e5, e24, e25]; exact H
theorem RMl_to {nl : Nat} {lw : Nat → List rCl} {h h' : zH} (H : RMl nl lw h) (e13 : h' 14 13 = h 14 13) (e : ∀ b, b ∈ [50, 51, 53, 54, 55, 56] → h' b = h b) : RMl nl lw h' := by
  refine ⟨by rw [e13]; exact H.1, fun i hi => ?_⟩
  obtain ⟨a, b⟩ := H.2 i hi
  refine ⟨by rw [e 53 (by decide)]; exact a, lawMo_keep _ 0 0 (fun j _ _ => ⟨by rw [e 50 (by decide)], by rw [e 51 (by decide)]⟩) (fun j _ _ => ⟨by rw [e 54 (by decide)], by rw [e 55 (by decide)], by rw [e 56 (by decide)]⟩) b⟩
theorem SHr_to {nn np nr : Nat} {t : Nat → Nat} {h h' : zH} (H : SHr nn np nr t h) (e4 : h' 12 4 = h 12 4) (e5 : h' 12 5 = h 12 5) (e76 : h' 76 = h 76) : SHr nn np nr t h' := by
  unfold SHr at *
  rw [e4, e5, e76]; exact H
/-- the class's part by what it rests on -/
theorem RC_to {nn lim lim' : Nat} {D : rD} {h h' : zH} (H : RCd nn lim D h) (hl : lim ≤ lim') (e : ∀ b, b ∈ [10, 16, 17, 18, 24, 25, 27, 28, 30, 31, 38, 39, 42, 43, 46, 47, 76] → h' b = h b) (e0 : h' 0 13 = h 0 13 ∧ h' 0 14 = h 0 14) (e5 : h' 5 0 = h 5 0 ∧ h' 5 1 = h 5 1) (e6 : h' 6 0 = h 6 0) (e12 : h' 12 4 = h 12 4 ∧ h' 12 5 = h 12 5) (e13 : h' 13 0 = h 13 0) : RCd nn lim' D h' := by
  obtain ⟨h1, h2, h3, h4, h5, h6, h7, h8⟩ := H
  exact ⟨CW_to h1 hl (e 10 (by decide)) (e 16 (by decide)) (e 17 (by decide)) (e 18 (by decide)) (e 30 (by decide)) (e 31 (by decide)) (e 42 (by decide)), CI_to h2 e0.1 (e 38 (by decide)) (e 39 (by decide)), OX_to h3 e6 (e 27 (by decide)) (e 28 (by decide)), NX_to h4 e13 (e 46 (by decide)) (e 47 (by decide)), KM_to h5 (e 43 (by decide)), ⟨RXl_to h6.1 e5.1 (e 24 (by decide)) (e 25 (by decide)), by rw [e5.2]; exact h6.2⟩, by rw [e0.2]; exact h7, SHr_to h8 e12.1 e12.2 (e 76 (by decide))⟩
theorem RC_eq {nn lim lim' : Nat} {D : rD} {h h' : zH} (H : RCd nn lim D h) (hl : lim ≤ lim') (e : EQr crw h h') : RCd nn lim' D h' := RC_to H hl (fun b hb => e b ((by decide : ∀ b, b ∈ [10, 16, 17, 18, 24, 25, 27, 28, 30, 31, 38, 39, 42, 43, 46, 47, 76] → b ∈ crw) b hb)) ⟨by rw [e 0 (by decide)], by rw [e 0 (by decide)]⟩ ⟨by rw [e 5 (by decide)], by rw [e 5 (by decide)]⟩ (by rw [e 6 (by decide)]) ⟨by rw [e 12 (by decide)], by rw [e 12 (by decide)]⟩ (by rw [e 13 (by decide)])
theorem RM_to {B B' : Nat} {D : rD} {g g' : zH} (H : RMd B D g) (hB : B ≤ B') (e : ∀ b, b ∈ [50, 51, 53, 54, 55, 56, 63, 64, 65, 66, 67, 68, 69, 70, 73, 74, 75] → g' b = g b) (e14 : ∀ j, j ∈ [13, 28, 29, 30, 33, 35, 36, 38, 46, 49] → g' 14 j = g 14 j) : RMd B' D g' := by
  obtain ⟨h1, h2, h3, h4, h5, h6⟩ := H
  exact ⟨MW_B (MW_to h1 ⟨e14 28 (by decide), e14 29 (by decide), e14 30 (by decide), e14 38 (by decide)⟩ (e 63 (by decide)) (e 64 (by decide)) (e 65 (by decide)) (e 66 (by decide)) (e 69 (by decide)) (e 70 (by decide))) hB, MI_B (MI_to h2 (e14 49 (by decide)) (e 75 (by decide))) hB, OM_to h3 (e14 33 (by decide)) (e 67 (by decide)) (e 68 (by decide)), NM_to h4 (e14 46 (by decide)) (e 73 (by decide)) (e 74 (by decide)), ⟨RMl_to h5.1 (e14 13 (by decide)) (fun b hb => e b ((by decide : ∀ b, b ∈ [50, 51, 53, 54, 55, 56] → b ∈ [50, 51, 53, 54, 55, 56, 63, 64, 65, 66, 67, 68, 69, 70, 73, 74, 75]) b hb)), by rw [e14 35 (by decide)]; exact h5.2⟩, by rw [e14 36 (by decide)]; exact h6⟩
theorem RM_eq {B B' : Nat} {D : rD} {g g' : zH} (H : RMd B D g) (hB : B ≤ B') (e : EQr mrw g g') : RMd B' D g' := RM_to H hB (fun b hb => e b ((by decide : ∀ b, b ∈ [50, 51, 53, 54, 55, 56, 63, 64, 65, 66, 67, 68, 69, 70, 73, 74, 75] → b ∈ mrw) b hb)) (fun j _ => by rw [e 14 (by decide)])
theorem RT_to {h h' : zH} (H : RT h) (e1 : h' 1 1 = h 1 1) (e15 : h' 15 = h 15) (e2 : h' 14 2 = h 14 2) (e49 : h' 49 = h 49) : RT h' := by
  unfold RT Alike2 at *
  rw [e1, e15, e2, e49]; exact H
/-- the tape emptied on both sides -/
theorem RT_0 {h h' : zH} (H : RT h) (e1 : h' 1 1 = 0) (e15 : h' 15 = h 15) (e2 : h' 14 2 = 0) (e49 : h' 49 = h 49) : RT h' := by
  unfold RT Alike2 at *
  obtain ⟨a, b, c, d⟩ := H
  rw [e1, e15, e2, e49]
  exact ⟨rfl, ⟨Int.le_refl 0, by decide⟩, c, fun i hi => absurd hi (by omega)⟩
/-- a call that leaves the relation's rows alone -/
theorem Rr_same {nn c : Nat} {h : zH} (H : Rr nn c h) : Rr nn (c + 1) h := by
  obtain ⟨T, D, V, C, M⟩ := H
  exact ⟨T, D, V, RC_eq C (by omega) (fun b _ => rfl), RM_eq M (by omega) (fun b _ => rfl)⟩
theorem Rr_keep {nn c : Nat} {h h' : zH} (H : Rr nn c h) {L : List Nat} (F : FR L h h') (hL : ∀ b, b ∈ [1, 14, 15, 49] ++ ([0, 5, 6, 12, 13] ++ ([10, 16, 17, 18, 24, 25, 27, 28, 30, 31, 38, 39, 42, 43, 46, 47, 76] ++ [50, 51, 53, 54, 55, 56, 63, 64, 65, 66, 67, 68, 69, 70, 73, 74, 75])) → b ∉ L) : Rr nn (c + 1) h' := by
  obtain ⟨T, D, V, C, M⟩ := H
  have e : ∀ b, b ∈ [1, 14, 15, 49] ++ ([0, 5, 6, 12, 13] ++ ([10, 16, 17, 18, 24, 25, 27, 28, 30, 31, 38, 39, 42, 43, 46, 47, 76] ++ [50, 51, 53, 54, 55, 56, 63, 64, 65, 66, 67, 68, 69, 70, 73, 74, 75])) → h' b = h b := fun b hb => F b (hL b hb)
  exact ⟨RT_to T (by rw [e 1 (by decide)]) (e 15 (by decide)) (by rw [e 14 (by decide)]) (e 49 (by decide)), D, V, RC_to C (by omega) (fun b hb => e b (List.mem_append.mpr (Or.inr (List.mem_append.mpr (Or.inr (List.mem_append.mpr (Or.inl hb))))))) ⟨by rw [e 0 (by decide)], by rw [e 0 (by decide)]⟩ ⟨by rw [e 5 (by decide)], by rw [e 5 (by decide)]⟩ (by rw [e 6 (by decide)]) ⟨by rw [e 12 (by decide)], by rw [e 12 (by decide)]⟩ (by rw [e 13 (by decide)]), RM_to M (by omega) (fun b hb => e b (List.mem_append.mpr (Or.inr (List.mem_append.mpr (Or.inr (List.mem_append.mpr (Or.inr hb))))))) (fun j _ => by rw [e 14 (by decide)])⟩
/-- a call of the class, then one of the reference: what each part comes to -/
theorem Rr_mk {nn c : Nat} {h h1 h2 : zH} {D D' : rD} {L1 L2 : List Nat} (T : RT h) (M : RMd (1500 * c) D h) (F1 : FR L1 h h1) (hL1 : ∀ b, b ∈ mrw → b ∉ L1) (h15 : 15 ∉ L1) (e11 : h1 1 1 = h 1 1) (V' : RVd D') (C' : RCd nn (240 * (c + 1)) D' h1) (k : RMd (1500 * c) D h1 → FR L2 h1 h2 ∧ h2 14 2 = h1 14 2 ∧ RMd (1500 * (c + 1)) D' h2) (hL2 : ∀ b, b ∈ crw → b ∉ L2) (h49 : 49 ∉ L2) : Rr nn (c + 1) h2 := by
  have E1 := EQ_fr F1 hL1
  obtain ⟨F2, e2, M'⟩ := k (RM_eq M (Nat.le_refl _) E1)
  have E2 := EQ_fr F2 hL2
  refine ⟨RT_to T ?_ ?_ ?_ ?_, D', V', RC_eq C' (Nat.le_refl _) E2, M'⟩
  · rw [E2 1 (by decide)]; exact e11
  · rw [E2 15 (by decide)]; exact F1 15 h15
  · rw [e2, E1 14 (by decide)]
  · rw [F2 49 h49, E1 49 (by decide)]
