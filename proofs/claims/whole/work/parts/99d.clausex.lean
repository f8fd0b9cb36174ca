/-! a clause of a hill, the class's -/
/-- a clause at p, ct of each sort being there: its fault, its end; counts and cells behind it -/
def clS (n : Nat) (b : Nat → Nat) (p : Nat) : Nat := (srt (sg n b (skp n b p))).toNat
def clF (n : Nat) (b : Nat → Nat) (p : Nat) (ct : Nat → Nat) : Int := if srt (sg n b (skp n b p)) = -1 ∨ mxI (clS n b p) ≤ ct (clS n b p) then (skp n b p : Int) else (iAll n b (clS n b p) (skp n b p + 1)).2.1
def clE (n : Nat) (b : Nat → Nat) (p : Nat) : Nat := (iAll n b (clS n b p) (skp n b p + 1)).1
def clC (n : Nat) (b : Nat → Nat) (p : Nat) (ct : Nat → Nat) : Nat → Nat := fun j => if j = clS n b p then ct j + 1 else ct j
def clB (n : Nat) (b : Nat → Nat) (p : Nat) (ct : Nat → Nat) : Nat := 32 * clS n b p + 4 * ct (clS n b p)
def clT (n : Nat) (b : Nat → Nat) (p : Nat) (ct : Nat → Nat) (t : Nat → Int) : Nat → Int := fun q => if clB n b p ct ≤ q ∧ q < clB n b p ct + itN (clS n b p) then (iAll n b (clS n b p) (skp n b p + 1)).2.2 (q - clB n b p ct) else t q
def DX (ct : Nat → Nat) (t : Nat → Int) (h : zH) : Prop := (∀ k, k < 4 → h 20 k = (ct k : Int)) ∧ ∀ k i j, k < 4 → (i < ct k ∨ (k = 0 ∧ i = 0)) → j < itN k → h 19 (32 * k + 4 * i + j) = t (32 * k + 4 * i + j)
def DV (ct : Nat → Nat) : Prop := ∀ k, k < 4 → ct k ≤ mxI k
theorem srt_b {c : Int} : -1 ≤ srt c ∧ srt c ≤ 3 := by
  unfold srt
  (repeat' split) <;> omega
theorem mxI_8 (k : Nat) : 1 ≤ mxI k ∧ mxI k ≤ 8 := by
  unfold mxI
  (repeat' split) <;> decide
theorem DV_1 {n : Nat} {b : Nat → Nat} {p : Nat} {ct : Nat → Nat} (V : DV ct) (h : ¬ (srt (sg n b (skp n b p)) = -1 ∨ mxI (clS n b p) ≤ ct (clS n b p))) : DV (clC n b p ct) := by
  intro k hk
  unfold clC
  by_cases e : k = clS n b p
  · rw [if_pos e, e]
    have : ¬ mxI (clS n b p) ≤ ct (clS n b p) := fun hh => h (Or.inr hh)
    omega
  · rw [if_neg e]; exact V k hk
theorem put20 {k : Nat} (hk : k < 4) (v : Int) (h : zH) : fX10_put 20 (k : Int) v h = zs h 20 k v := by
  rw [put_in (by omega) (by show _ < ((4 : Nat) : Int); omega), Int.toNat_natCast]
theorem many3 {k : Nat} (hk : k < 4) (h : zH) : fX1_many 3 (k : Int) h = h 20 k := by
  unfold fX1_many
  have e : zfr 3 1 = 20 := rfl
  rw [e, at_in (by omega) (by show _ < ((4 : Nat) : Int); omega), Int.toNat_natCast]
theorem clauseX {n : Nat} {b : Nat → Nat} (T : TV n b) {N : Nat} (hN : 300 ≤ N) {ct : Nat → Nat} {t : Nat → Int} (V : DV ct) {h : zH} (H : TX n b h) (D : DX ct t h) {p : Nat} (hp : p ≤ n) (hpl : h 1 2 = (p : Int)) (hf : h 1 3 = -1) : ∃ h', fX1_readClause N 3 h = some h' ∧ FR [1, 19, 20] h h' ∧ FS 1 [2, 3] h h' ∧ h' 1 3 = clF n b p ct ∧ (∃ q : Nat, h' 1 2 = (q : Int) ∧ q ≤ n) ∧ (clF n b p ct = -1 → h' 1 2 = (clE n b p : Int) ∧ DX (clC n b p ct) (clT n b p ct t) h') := by
  have n240 := T.1
  obtain ⟨h1, e1, e2, e3, e4⟩ := nextX T hN H hp hpl hf (by decide)
  rw [if_pos rfl] at e1
  obtain ⟨s1, s2, s3⟩ := skp_b (b := b) hp
  have hf1 : h1 1 3 = -1 := by rw [e3 3 (by decide)]; exact hf
  have G1 : FS 1 [2, 3] h h1 := fun q hq => e3 q (fun e => hq (by rw [List.mem_singleton.mp e]; decide))
  have F1 : FR [1, 19, 20] h h1 := FR_up e2 (by decide)
  have sb := srt_b (c := sg n b (skp n b p))
  unfold fX1_readClause
  rw [e1, z2_some, srtX (by omega) (sg_w T), zb_some, zw_id (show -2147483648 ≤ srt (sg n b (skp n b p)) ∧ srt (sg n b (skp n b p)) < 2147483648 by omega), e4]
  -- a fault here
  have bad : clF n b p ct = (skp n b p : Int) → ∃ h', (zlet (fX9_blame (skp n b p : Int) h1) fun h5 => some h5) = some h' ∧ FR [1, 19, 20] h h' ∧ FS 1 [2, 3] h h' ∧ h' 1 3 = clF n b p ct ∧ (∃ q : Nat, h' 1 2 = (q : Int) ∧ q ≤ n) ∧ (clF n b p ct = -1 → h' 1 2 = (clE n b p : Int) ∧ DX (clC n b p ct) (clT n b p ct t) h') := by
    intro e
    rw [e, blameX hf1 (by decide), if_pos rfl, zlet_v]
    exact ⟨_, rfl, FR_tr F1 (fun b hb => zs_row_ne (fun e => hb (by rw [e]; decide))), FS_tr G1 (fun q hq => zs_ne (fun e => hq (by rw [e]; decide))), zs_at, ⟨_, by rw [zs_ne (by decide)]; exact e4, s2⟩, fun h => by omega⟩
  by_cases cs : srt (sg n b (skp n b p)) = -1
  · rw [if_pos (by omega)]
    exact bad (by unfold clF; rw [if_pos (Or.inl cs)])
  · obtain ⟨k, ek⟩ : ∃ k : Nat, srt (sg n b (skp n b p)) = (k : Int) := ⟨(srt (sg n b (skp n b p))).toNat, by omega⟩
    have hk : k < 4 := by omega
    have eS : clS n b p = k := by unfold clS; rw [ek, Int.toNat_natCast]
    have m8 := mxI_8 k
    have vk := V k hk
    have dk : h1 20 k = (ct k : Int) := by rw [e2 20 (by decide)]; exact D.1 k hk
    rw [if_neg (by omega), ek, many3 hk, dk, mx_eq k hk, zw_id (show -2147483648 ≤ (ct k : Int) ∧ (ct k : Int) < 2147483648 by omega), zw_id (show -2147483648 ≤ (mxI k : Int) ∧ (mxI k : Int) < 2147483648 by omega)]
    by_cases cm : ct k < mxI k
    · rw [if_pos (by omega)]
      have hlt : skp n b p < n := by
        refine sg_lt (b := b) (fun e => cs ?_)
        rw [e]; decide
      have nb : ¬ (srt (sg n b (skp n b p)) = -1 ∨ mxI (clS n b p) ≤ ct (clS n b p)) := by
        rw [eS]
        rintro (h | h)
        · exact cs h
        · omega
      have eF : clF n b p ct = (iAll n b k (skp n b p + 1)).2.1 := by unfold clF; rw [if_neg nb, eS]
      have eE : clE n b p = (iAll n b k (skp n b p + 1)).1 := by unfold clE; rw [eS]
      simp only [zlet_v]
      obtain ⟨h2, eh2⟩ : ∃ h2, h2 = zs h1 1 2 ((skp n b p : Int) + 1) := ⟨_, rfl⟩
      rw [← eh2, many3 hk]
      have d2 : h2 20 k = (ct k : Int) := by rw [eh2, zs_row_ne (by decide)]; exact dk
      have e20 : zfr 3 1 = 20 := rfl
      rw [d2, e20, put20 hk]
      obtain ⟨h3, eh3⟩ : ∃ h3, h3 = zs h2 20 k ((ct k : Int) + 1) := ⟨_, rfl⟩
      rw [← eh3]
      have F3 : FR [1, 19, 20] h h3 := by
        rw [eh3, eh2]
        exact FR_tr F1 (fun b hb => by rw [zs_row_ne (fun e => hb (by rw [e]; decide)), zs_row_ne (fun e => hb (by rw [e]; decide))])
      have G3 : FS 1 [2, 3] h h3 := by
        rw [eh3, eh2]
        exact FS_tr G1 (fun q hq => by rw [zs_row_ne (by decide), zs_ne (fun e => hq (by rw [e]; decide))])
      have q19 : h3 19 = h 19 := by rw [eh3, zs_row_ne (by decide), eh2, zs_row_ne (by decide), e2 19 (by decide)]
      obtain ⟨h4, u1, u2, u3, u4⟩ := usX (N := N) (by omega) hk (show ct k < 8 by omega) (h := h3)
      rw [u1, zb_some]
      have p4 : h4 1 2 = ((skp n b p + 1 : Nat) : Int) := by rw [u2 1 (by decide), eh3, zs_row_ne (by decide), eh2, zs_at]; rfl
      have f4 : h4 1 3 = -1 := by rw [u2 1 (by decide), eh3, zs_row_ne (by decide), eh2, zs_ne (by decide)]; exact hf1
      have G4 : FS 1 [2, 3] h h4 := FS_tr G3 (fun q _ => by rw [u2 1 (by decide)])
      have F4 : FR [1, 19, 20] h h4 := FR_tr F3 (FR_up u2 (by decide))
      obtain ⟨h5, w1, w2, w3, w4, w5, w6, w7⟩ := itemsX (idx := ct k) T hN hk (by omega) (TX_to H (G4 1 (by decide)) (F4 15 (by decide))) (show skp n b p + 1 ≤ n by omega) p4 f4 u4
      rw [w1, zb_some, eF, eE]
      refine ⟨h5, rfl, FR_tr F4 (FR_up w2 (by decide)), FS_tr G4 w3, w5, w6, fun hc => ?_⟩
      obtain ⟨x1, x2⟩ := w7 hc
      have iN := itN_4 k
      refine ⟨x1, fun q hq => ?_, fun q i j hq hi hj => ?_⟩
      · unfold clC
        rw [eS, w2 20 (by decide), u2 20 (by decide), eh3]
        by_cases e : q = k
        · rw [e, zs_at, if_pos rfl]; rfl
        · rw [zs_ne e, if_neg e, eh2, zs_row_ne (by decide), e2 20 (by decide)]; exact D.1 q hq
      · have jq := itN_4 q
        unfold clT clB
        rw [eS]
        by_cases e : q = k ∧ i = ct k
        · obtain ⟨rfl, rfl⟩ := e
          rw [if_pos (by omega), x2 j hj, show 32 * q + 4 * ct q + j - (32 * q + 4 * ct q) = j by omega]
        · have i8 : i < 8 := by
            have vq := V q hq
            have mq := mxI_8 q
            rcases hi with hi | ⟨_, hi⟩
            · unfold clC at hi
              rw [eS] at hi
              by_cases eq : q = k
              · rw [if_pos eq, eq] at hi; omega
              · rw [if_neg eq] at hi; omega
            · omega
          have far : 32 * q + 4 * i + j < 32 * k + 4 * ct k ∨ 32 * k + 4 * ct k + 4 ≤ 32 * q + 4 * i + j := by
            by_cases eq : q = k
            · have : i ≠ ct k := fun h => e ⟨eq, h⟩
              omega
            · omega
          rw [if_neg (by omega), w4 _ (by omega), u3 _ far, q19]
          refine D.2 q i j hq ?_ hj
          rcases hi with hi | hi
          · unfold clC at hi
            rw [eS] at hi
            by_cases eq : q = k
            · rw [if_pos eq] at hi
              have : i ≠ ct k := fun h => e ⟨eq, h⟩
              rw [eq] at hi
              left; rw [eq]; omega
            · rw [if_neg eq] at hi
              exact Or.inl hi
          · exact Or.inr hi
    · rw [if_neg (by omega)]
      exact bad (by unfold clF; rw [if_pos (Or.inr (by rw [eS]; omega))])
