/-! the tape: feed, end -/
theorem zsh_bv (x : BitVec 32) (s : Nat) (hs : s ≤ 24) : (x >>> s) &&& 255#32 = (x.sshiftRight s) &&& 255#32 := by
  apply BitVec.eq_of_getLsbD_eq
  intro i hi
  rw [BitVec.getLsbD_and, BitVec.getLsbD_and, BitVec.getLsbD_ushiftRight, BitVec.getLsbD_sshiftRight]
  by_cases h8 : i < 8
  · have h1 : s + i < 32 := by omega
    have h2 : ¬ (32 ≤ i) := by omega
    simp [h1, h2]
  · have h3 : (255#32).getLsbD i = false := by
      have : ∀ j : Nat, j < 32 → ¬ j < 8 → (255#32).getLsbD j = false := by decide
      exact this i hi h8
    rw [h3]; simp
theorem zsh_eq {x : Int} {s : Int} (hs : s = 24 ∨ s = 16 ∨ s = 8 ∨ s = 0) : zand (zshr x s) 255 = zand (zushr x s) 255 := by
  unfold zand zshr zushr
  rw [zi_toInt, zi_toInt]
  congr 1
  apply Int32.toBitVec_inj.mp
  rw [Int32.toBitVec_and, Int32.toBitVec_and]
  have e := fun s hs => (zsh_bv (zi x).toBitVec s hs).symm
  rcases hs with rfl | rfl | rfl | rfl
  · exact e 24 (by omega)
  · exact e 16 (by omega)
  · exact e 8 (by omega)
  · exact e 0 (by omega)
def bb (a s : Int) : Int := zand (zushr a s) 255
theorem bb_range (a s : Int) : 0 ≤ bb a s ∧ bb a s ≤ 255 := by
  have h : (zi (zushr a s) &&& zi 255).toInt = (((zi (zushr a s)).toBitVec &&& 255#32).toNat : Int) := by
    have h1 : (zi (zushr a s) &&& zi 255).toInt = ((zi (zushr a s)).toBitVec &&& 255#32).toInt := by
      rw [← Int32.toInt_toBitVec, Int32.toBitVec_and]; rfl
    have h3 : ((zi (zushr a s)).toBitVec &&& 255#32).toNat ≤ 255 := by rw [BitVec.toNat_and]; exact Nat.and_le_right
    rw [h1, BitVec.toInt_eq_toNat_of_lt (by omega)]
  have h3 : ((zi (zushr a s)).toBitVec &&& 255#32).toNat ≤ 255 := by rw [BitVec.toNat_and]; exact Nat.and_le_right
  show 0 ≤ zand _ _ ∧ zand _ _ ≤ 255
  unfold zand
  rw [h]; omega
theorem bb_w (a s : Int) : zw (bb a s) = bb a s := by
  have := bb_range a s
  exact zw_id (by omega)
/-- the bytes of five words, the highest first -/
def words5 (a1 a2 a3 a4 a5 : Int) : List Int := [bb a1 24, bb a1 16, bb a1 8, bb a1 0, bb a2 24, bb a2 16, bb a2 8, bb a2 0, bb a3 24, bb a3 16, bb a3 8, bb a3 0, bb a4 24, bb a4 16, bb a4 8, bb a4 0, bb a5 24, bb a5 16, bb a5 8, bb a5 0]
def cnt : List Int → Int
  | [] => 0
  | b :: bs => (if b = 0 then 0 else 1) + cnt bs
theorem cnt_app (x y : List Int) : cnt (x ++ y) = cnt x + cnt y := by
  induction x with
  | nil => simp [cnt]
  | cons b x ih => simp only [List.cons_append, cnt, ih]; omega
theorem cnt_nn (x : List Int) : 0 ≤ cnt x ∧ cnt x ≤ x.length := by
  induction x with
  | nil => simp [cnt]
  | cons b x ih =>
    simp only [cnt, List.length_cons]
    split <;> omega
/-- a byte more on a row with its length at another place -/
def pu (o ro rs : Nat) (b : Int) (h : zH) : zH := if b = 0 then h else if 240 ≤ h ro rs then h else zs (zs h o (h ro rs).toNat b) ro rs (h ro rs + 1)
def pus (o ro rs : Nat) : List Int → zH → zH
  | [], h => h
  | b :: bs, h => pus o ro rs bs (pu o ro rs b h)
theorem pus_app (o ro rs : Nat) (x y : List Int) (h : zH) : pus o ro rs (x ++ y) h = pus o ro rs y (pus o ro rs x h) := by
  induction x generalizing h with
  | nil => rfl
  | cons b x ih => exact ih _
theorem zs_other {h : zH} {o j a b : Nat} {v : Int} (hn : ¬ (a = o ∧ b = j)) : zs h o j v a b = h a b := by
  unfold zs
  by_cases h1 : a = o
  · subst h1
    rw [if_pos rfl]
    exact if_neg (fun e => hn ⟨rfl, e⟩)
  · rw [if_neg h1]
theorem zs_at {h : zH} {o j : Nat} {v : Int} : zs h o j v o j = v := zs_same
/-- two rows of bytes go alike -/
abbrev Alike2 (o1 r1 s1 o2 r2 s2 : Nat) (h g : zH) : Prop := h r1 s1 = g r2 s2 ∧ (0 ≤ h r1 s1 ∧ h r1 s1 ≤ 240) ∧ (∀ i : Nat, i < 240 → h o1 i = g o2 i) ∧ ∀ i : Nat, (i : Int) < h r1 s1 → 1 ≤ h o1 i ∧ h o1 i ≤ 255
theorem pu_alike {o1 r1 s1 o2 r2 s2 : Nat} (d1 : o1 ≠ r1) (d2 : o2 ≠ r2) {b : Int} (hb : 0 ≤ b ∧ b ≤ 255) {h g : zH} (H : Alike2 o1 r1 s1 o2 r2 s2 h g) : Alike2 o1 r1 s1 o2 r2 s2 (pu o1 r1 s1 b h) (pu o2 r2 s2 b g) := by
  obtain ⟨h1, h2, h3, h4⟩ := H
  unfold pu
  by_cases hb0 : b = 0
  · rw [if_pos hb0, if_pos hb0]; exact ⟨h1, h2, h3, h4⟩
  · rw [if_neg hb0, if_neg hb0, ← h1]
    by_cases hL : 240 ≤ h r1 s1
    · rw [if_pos hL, if_pos hL]; exact ⟨h1, h2, h3, h4⟩
    · rw [if_neg hL, if_neg hL]
      have e1 : ∀ i, zs (zs h o1 (h r1 s1).toNat b) r1 s1 (h r1 s1 + 1) o1 i = if i = (h r1 s1).toNat then b else h o1 i := fun i => by
        rw [zs_row_ne d1, zs_row]
      have e2 : ∀ i, zs (zs g o2 (h r1 s1).toNat b) r2 s2 (h r1 s1 + 1) o2 i = if i = (h r1 s1).toNat then b else g o2 i := fun i => by
        rw [zs_row_ne d2, zs_row]
      refine ⟨by rw [zs_at, zs_at], by rw [zs_at]; omega, fun i hi => ?_, fun i hi => ?_⟩
      · rw [e1, e2, h3 i hi]
      · rw [zs_at] at hi
        rw [e1]
        by_cases hc : i = (h r1 s1).toNat
        · rw [if_pos hc]; omega
        · rw [if_neg hc]; exact h4 i (by omega)
theorem pu_frame {o r s : Nat} {b : Int} {h : zH} {a j : Nat} (ha : a ≠ o) (hj : ¬ (a = r ∧ j = s)) : pu o r s b h a j = h a j := by
  unfold pu
  split
  · rfl
  · split
    · rfl
    · rw [zs_other hj, zs_row_ne ha]
theorem pus_frame {o r s : Nat} {bs : List Int} {h : zH} {a j : Nat} (ha : a ≠ o) (hj : ¬ (a = r ∧ j = s)) : pus o r s bs h a j = h a j := by
  induction bs generalizing h with
  | nil => rfl
  | cons b bs ih => exact (ih (h := pu o r s b h)).trans (pu_frame ha hj)
theorem pus_alike {o1 r1 s1 o2 r2 s2 : Nat} (d1 : o1 ≠ r1) (d2 : o2 ≠ r2) {bs : List Int} (hb : ∀ b ∈ bs, 0 ≤ b ∧ b ≤ 255) {h g : zH} (H : Alike2 o1 r1 s1 o2 r2 s2 h g) : Alike2 o1 r1 s1 o2 r2 s2 (pus o1 r1 s1 bs h) (pus o2 r2 s2 bs g) := by
  induction bs generalizing h g with
  | nil => exact H
  | cons b bs ih => exact ih (fun x hx => hb x (List.mem_cons_of_mem _ hx)) (pu_alike d1 d2 (hb b List.mem_cons_self) H)
