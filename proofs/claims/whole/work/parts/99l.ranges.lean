/-! the cells that are read lie in their ranges -/
theorem us_rng : ∀ k, k < 4 → ∀ j, j < itN k → loI k j ≤ iUs k j ∧ iUs k j ≤ hiI k j := by
  intro k hk i hi
  rcases (show k = 0 ∨ k = 1 ∨ k = 2 ∨ k = 3 by omega) with rfl | rfl | rfl | rfl
  · have hi : i < 2 := hi
    rcases (show i = 0 ∨ i = 1 by omega) with rfl | rfl <;> decide
  · have hi : i < 3 := hi
    rcases (show i = 0 ∨ i = 1 ∨ i = 2 by omega) with rfl | rfl | rfl <;> decide
  · have hi : i < 4 := hi
    rcases (show i = 0 ∨ i = 1 ∨ i = 2 ∨ i = 3 by omega) with rfl | rfl | rfl | rfl <;> decide
  · have hi : i < 3 := hi
    rcases (show i = 0 ∨ i = 1 ∨ i = 2 by omega) with rfl | rfl | rfl <;> decide
theorem nbf_ok {n p : Nat} {b : Nat → Nat} {lo hi : Int} (hp : p ≤ n) (h : nbf n b p lo hi = -1) : lo ≤ (nbr n b p).2.1 ∧ (nbr n b p).2.1 ≤ hi := by
  have nb := nbr_b (b := b) hp
  unfold nbf at h
  by_cases c : (nbr n b p).2.2 = -1
  · rw [if_pos c] at h
    by_cases c1 : lo ≤ (nbr n b p).2.1 ∧ (nbr n b p).2.1 ≤ hi
    · exact c1
    · rw [if_neg c1] at h
      have := nb.2.2.2 c
      omega
  · rw [if_neg c] at h
    exact absurd h c
theorem iR_rng {n : Nat} {b : Nat → Nat} {k : Nat} (m : Nat) : ∀ (P u : Nat) (c : Nat → Int), P ≤ n → (∀ j, j < itN k → loI k j ≤ c j ∧ c j ≤ hiI k j) → ∀ j, j < itN k → loI k j ≤ (iR n b k m P u c).2.2 j ∧ (iR n b k m P u c).2.2 j ≤ hiI k j := by
  induction m with
  | zero => intro P u c hP hc j hj; exact hc j hj
  | succ m ih =>
    intro P u c hP hc j hj
    unfold iR
    by_cases c1 : itI k (sg n b P) = -1
    · rw [if_pos c1]; exact hc j hj
    · rw [if_neg c1]
      by_cases c2 : u.testBit (itI k (sg n b P)).toNat = true
      · rw [if_pos c2]; exact hc j hj
      · rw [if_neg c2]
        have hlt : P < n := itI_lt c1
        have b1 := nbr_b (b := b) (show P + 1 ≤ n by omega)
        have sk := skp_b (b := b) b1.1
        split
        · rename_i hok
          refine ih _ _ _ sk.2.1 (fun q hq => ?_) j hj
          unfold upI
          by_cases e : q = (itI k (sg n b P)).toNat
          · rw [if_pos e, e]
            exact nbf_ok (show P + 1 ≤ n by omega) hok
          · rw [if_neg e]; exact hc q hq
        · exact hc j hj
/-- the told cells lie in their ranges -/
def CR (ct : Nat → Nat) (t : Nat → Int) : Prop := ∀ k i j, k < 4 → (i < ct k ∨ (k = 0 ∧ i = 0)) → j < itN k → loI k j ≤ t (32 * k + 4 * i + j) ∧ t (32 * k + 4 * i + j) ≤ hiI k j
theorem CR_1 {n : Nat} {b : Nat → Nat} {p : Nat} {ct : Nat → Nat} {t : Nat → Int} (V : DV ct) (C : CR ct t) (hp : p ≤ n) (h : clF n b p ct = -1) : CR (clC n b p ct) (clT n b p ct t) := by
  obtain ⟨z1, z2, z3⟩ := clE_b hp h
  have sb := srt_b (c := sg n b (skp n b p))
  have hk : clS n b p < 4 := by unfold clS; omega
  have hlt : skp n b p < n := by
    refine sg_lt (b := b) (fun e => z3 (Or.inl ?_))
    rw [e]; decide
  have it := iR_rng (n := n) (b := b) (k := clS n b p) 4 (skp n b (skp n b p + 1)) 0 (iUs (clS n b p)) (skp_b (b := b) (show skp n b p + 1 ≤ n by omega)).2.1 (us_rng _ hk)
  have m8 := mxI_8 (clS n b p)
  have vk := V _ hk
  intro q i j hq hi hj
  have jq := itN_4 q
  have kq := itN_4 (clS n b p)
  have cm : ¬ mxI (clS n b p) ≤ ct (clS n b p) := fun hh => z3 (Or.inr hh)
  unfold clT clB
  by_cases e : q = clS n b p ∧ i = ct (clS n b p)
  · obtain ⟨e1, e2⟩ := e
    rw [e1] at hj ⊢
    rw [e2, if_pos (by omega), show 32 * clS n b p + 4 * ct (clS n b p) + j - (32 * clS n b p + 4 * ct (clS n b p)) = j by omega]
    exact it j hj
  · have hi' : (i < ct q ∨ (q = 0 ∧ i = 0)) := by
      rcases hi with hi | hi
      · unfold clC at hi
        by_cases eq : q = clS n b p
        · rw [if_pos eq, eq] at hi
          have : i ≠ ct (clS n b p) := fun h => e ⟨eq, h⟩
          left; rw [eq]; omega
        · rw [if_neg eq] at hi
          exact Or.inl hi
      · exact Or.inr hi
    have i8 : i < 8 := by
      have vq := V q hq
      have mq := mxI_8 q
      omega
    rw [if_neg (by
      by_cases eq : q = clS n b p
      · have : i ≠ ct (clS n b p) := fun h => e ⟨eq, h⟩
        omega
      · omega)]
    exact C q i j hq hi' hj
theorem CR_R {n : Nat} {b : Nat → Nat} (m : Nat) : ∀ (p : Nat) (ct : Nat → Nat) (t : Nat → Int), p ≤ n → DV ct → CR ct t → CR (hR n b m p ct t).2.1 (hR n b m p ct t).2.2 := by
  induction m with
  | zero => intro p ct t hp V C; exact C
  | succ m ih =>
    intro p ct t hp V C
    unfold hR
    by_cases cf : clF n b p ct = -1
    · obtain ⟨z1, z2, z3⟩ := clE_b hp cf
      rw [if_pos cf]
      by_cases c59 : sg n b (hEn n b p) = 59
      · have hlt : hEn n b p < n := sg_lt (show sg n b (hEn n b p) ≠ -1 by omega)
        rw [if_pos c59]
        exact ih _ _ _ (by omega) (DV_1 V z3) (CR_1 V C hp cf)
      · rw [if_neg c59]
        exact CR_1 V C hp cf
    · rw [if_neg cf]
      exact C
theorem hAll_CR {n : Nat} {b : Nat → Nat} : CR (hAll n b).2.1 (hAll n b).2.2 := by
  refine CR_R 121 0 _ _ (Nat.zero_le n) (fun k _ => Nat.zero_le _) (fun k i j hk hi hj => ?_)
  rcases hi with hi | ⟨rfl, rfl⟩
  · exact absurd (show i < 0 from hi) (by omega)
  · have := us_rng 0 (by decide) j hj
    rw [show 32 * 0 + 4 * 0 + j = j by omega]
    exact this
