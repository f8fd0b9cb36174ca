/-! all clauses of a hill: what is read -/
theorem nbr_lo {n p : Nat} {b : Nat → Nat} (hp : p ≤ n) : p ≤ (nbr n b p).1 := by
  have s := skp_b (b := b) hp
  unfold nbr
  by_cases c0 : dgp n b (skp n b p)
  · rw [if_pos c0]
    by_cases c1 : dgp n b (skp n b p + 1)
    · rw [if_pos c1]
      show p ≤ skp n b p + 2
      omega
    · rw [if_neg c1]
      show p ≤ skp n b p + 1
      omega
  · rw [if_neg c0]
    exact s.1
theorem iR_b {n : Nat} {b : Nat → Nat} {k : Nat} (m : Nat) : ∀ (P u : Nat) (c : Nat → Int), P ≤ n → P ≤ (iR n b k m P u c).1 ∧ (iR n b k m P u c).1 ≤ n := by
  induction m with
  | zero => intro P u c hP; exact ⟨Nat.le_refl P, hP⟩
  | succ m ih =>
    intro P u c hP
    unfold iR
    by_cases c1 : itI k (sg n b P) = -1
    · rw [if_pos c1]; exact ⟨Nat.le_refl P, hP⟩
    · rw [if_neg c1]
      by_cases c2 : u.testBit (itI k (sg n b P)).toNat = true
      · rw [if_pos c2]; exact ⟨Nat.le_refl P, hP⟩
      · rw [if_neg c2]
        have hlt : P < n := itI_lt c1
        have b1 := nbr_b (b := b) (show P + 1 ≤ n by omega)
        have b2 := nbr_lo (b := b) (show P + 1 ≤ n by omega)
        have sk := skp_b (b := b) b1.1
        split
        · have := ih (skp n b (nbr n b (P + 1)).1) (u ||| 2 ^ (itI k (sg n b P)).toNat) (upI c (itI k (sg n b P)).toNat (nbr n b (P + 1)).2.1) sk.2.1
          omega
        · exact ⟨Nat.le_refl P, hP⟩
/-- a clause without a fault ends behind its letter -/
theorem clE_b {n p : Nat} {b : Nat → Nat} {ct : Nat → Nat} (hp : p ≤ n) (h : clF n b p ct = -1) : p + 1 ≤ clE n b p ∧ clE n b p ≤ n ∧ ¬ (srt (sg n b (skp n b p)) = -1 ∨ mxI (clS n b p) ≤ ct (clS n b p)) := by
  have s := skp_b (b := b) hp
  unfold clF at h
  by_cases c : srt (sg n b (skp n b p)) = -1 ∨ mxI (clS n b p) ≤ ct (clS n b p)
  · rw [if_pos c] at h
    omega
  · have hlt : skp n b p < n := by
      refine sg_lt (b := b) (fun e => c (Or.inl ?_))
      rw [e]; decide
    have s2 := skp_b (b := b) (show skp n b p + 1 ≤ n by omega)
    have i := iR_b (b := b) (k := clS n b p) 4 (skp n b (skp n b p + 1)) 0 (iUs (clS n b p)) s2.2.1
    have e : clE n b p = (iR n b (clS n b p) 4 (skp n b (skp n b p + 1)) 0 (iUs (clS n b p))).1 := rfl
    exact ⟨by omega, by omega, c⟩
theorem clF_b {n p : Nat} {b : Nat → Nat} {ct : Nat → Nat} (hp : p ≤ n) : -1 ≤ clF n b p ct ∧ clF n b p ct ≤ n := by
  have s := skp_b (b := b) hp
  have key : ∀ (k m P u : Nat) (c : Nat → Int), P ≤ n → -1 ≤ (iR n b k m P u c).2.1 ∧ (iR n b k m P u c).2.1 ≤ n := by
    intro k m
    induction m with
    | zero => intro P u c hP; exact ⟨(show (-1 : Int) ≤ -1 by decide), by show (-1 : Int) ≤ n; omega⟩
    | succ m ih =>
      intro P u c hP
      have m1 : -1 ≤ ((P, (-1 : Int), c) : Nat × Int × (Nat → Int)).2.1 ∧ ((P, (-1 : Int), c) : Nat × Int × (Nat → Int)).2.1 ≤ n := ⟨(show (-1 : Int) ≤ -1 by decide), by show (-1 : Int) ≤ n; omega⟩
      unfold iR
      by_cases c1 : itI k (sg n b P) = -1
      · rw [if_pos c1]; exact m1
      · rw [if_neg c1]
        by_cases c2 : u.testBit (itI k (sg n b P)).toNat = true
        · rw [if_pos c2]; exact m1
        · rw [if_neg c2]
          have hlt : P < n := itI_lt c1
          have b1 := nbr_b (b := b) (show P + 1 ≤ n by omega)
          have sk := skp_b (b := b) b1.1
          split
          · exact ih _ _ _ sk.2.1
          · exact nbf_b (show P + 1 ≤ n by omega) _ _
  unfold clF
  by_cases c : srt (sg n b (skp n b p)) = -1 ∨ mxI (clS n b p) ≤ ct (clS n b p)
  · rw [if_pos c]; omega
  · rw [if_neg c]
    have hlt : skp n b p < n := by
      refine sg_lt (b := b) (fun e => c (Or.inl ?_))
      rw [e]; decide
    exact key _ _ _ _ _ (skp_b (b := b) (show skp n b p + 1 ≤ n by omega)).2.1
def hEn (n : Nat) (b : Nat → Nat) (p : Nat) : Nat := skp n b (clE n b p)
/-- m clauses at most from p on: the fault but for wholeness, counts, cells -/
def hR (n : Nat) (b : Nat → Nat) : Nat → Nat → (Nat → Nat) → (Nat → Int) → Int × (Nat → Nat) × (Nat → Int)
  | 0, _, ct, t => (0, ct, t)
  | m + 1, p, ct, t => if clF n b p ct = -1 then (if sg n b (hEn n b p) = 59 then hR n b m (hEn n b p + 1) (clC n b p ct) (clT n b p ct t) else (if sg n b (hEn n b p) = -1 then -1 else (hEn n b p : Int), clC n b p ct, clT n b p ct t)) else (clF n b p ct, ct, t)
