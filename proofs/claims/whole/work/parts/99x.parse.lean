/-! what a rule's text says -/
abbrev rRes : Type := Nat × Int × zE
def ltr (c : Int) : Int := fX11_letterOf c
def dig (n : Nat) (b : Nat → Nat) : Nat → Nat → Int → Nat × Int
  | 0, q, v => (q, v)
  | k + 1, q, v => if dgp n b q then dig n b k (q + 1) (v * 10 + sg n b q - 48) else (q, v)
def dg4 (n : Nat) (b : Nat → Nat) (q : Nat) : Nat × Int := dig n b 4 q 0
def atB (n : Nat) (b : Nat → Nat) (inner : Nat → rRes) (p : Nat) : rRes := if dgp n b (skp n b p) then ((dg4 n b (skp n b p)).1, if dgp n b (dg4 n b (skp n b p)).1 then ((dg4 n b (skp n b p)).1 : Int) else -1, eNum (dg4 n b (skp n b p)).2) else if ltr (sg n b (skp n b p)) = -1 then (if sg n b (skp n b p) = 91 then inner (skp n b p) else (skp n b p, (skp n b p : Int), eD)) else (skp n b p + 1, -1, eLet (ltr (sg n b (skp n b p))).toNat)
def opL (n : Nat) (b : Nat → Nat) (s1 m1 s2 m2 : Int) (it : Nat → rRes) : Nat → rRes → rRes
  | 0, a => a
  | k + 1, a => if a.2.1 = -1 then (if sg n b (skp n b a.1) = s1 ∨ sg n b (skp n b a.1) = s2 then (if (it (skp n b a.1 + 1)).2.1 = -1 then opL n b s1 m1 s2 m2 it k ((it (skp n b a.1 + 1)).1, -1, eBin (sg n b (skp n b a.1)) (if sg n b (skp n b a.1) = s1 then m1 else m2) a.2.2 (it (skp n b a.1 + 1)).2.2) else it (skp n b a.1 + 1)) else a) else a
def opG (n : Nat) (b : Nat → Nat) (s1 m1 s2 m2 : Int) (it : Nat → rRes) (p : Nat) : rRes := opL n b s1 m1 s2 m2 it (n + 1) (it p)
def trm (n : Nat) (b : Nat → Nat) (at' : Nat → rRes) : Nat → rRes := opG n b 42 4 47 5 at'
def smm (n : Nat) (b : Nat → Nat) (at' : Nat → rRes) : Nat → rRes := opG n b 43 2 45 3 (trm n b at')
def clo (n : Nat) (b : Nat → Nat) (c : Int) (a : rRes) : rRes := if a.2.1 = -1 then (if sg n b (skp n b a.1) = c then (skp n b a.1 + 1, -1, a.2.2) else (skp n b a.1, (skp n b a.1 : Int), eD)) else a
def AT (n : Nat) (b : Nat → Nat) : Nat → Nat → rRes
  | 0 => atB n b (fun q => (q, (q : Int), eD))
  | r + 1 => atB n b (fun q => clo n b 93 (smm n b (AT n b r) (q + 1)))
def SU (n : Nat) (b : Nat → Nat) (r : Nat) : Nat → rRes := smm n b (AT n b r)
abbrev isS (c : Int) : Prop := c = 61 ∨ c = 60 ∨ c = 62
def mS (c : Int) : Int := if c = 61 then 6 else if c = 60 then 7 else 8
def cmpP (n : Nat) (b : Nat → Nat) (su : Nat → rRes) (a : rRes) : rRes := if a.2.1 = -1 then (if isS (sg n b (skp n b a.1)) then (if (su (skp n b a.1 + 1)).2.1 = -1 then ((su (skp n b a.1 + 1)).1, -1, eBin (sg n b (skp n b a.1)) (mS (sg n b (skp n b a.1))) a.2.2 (su (skp n b a.1 + 1)).2.2) else su (skp n b a.1 + 1)) else (skp n b a.1, (skp n b a.1 : Int), eD)) else a
def notP (a : rRes) : rRes := if a.2.1 = -1 then (a.1, -1, eNot a.2.2) else a
def andK (n : Nat) (b : Nat → Nat) (u : Nat → rRes) (a : rRes) : rRes := opL n b 38 10 38 10 u (n + 1) a
def orK (n : Nat) (b : Nat → Nat) (u : Nat → rRes) (a : rRes) : rRes := opL n b 124 11 124 11 (opG n b 38 10 38 10 u) (n + 1) a
def condG (n : Nat) (b : Nat → Nat) (u : Nat → rRes) (p : Nat) : rRes := orK n b u (andK n b u (u p))
def UN (n : Nat) (b : Nat → Nat) : Nat → Nat → rRes
  | 0 => fun p => if sg n b (skp n b p) = 33 ∨ sg n b (skp n b p) = 40 then (skp n b p, (skp n b p : Int), eD) else cmpP n b (SU n b 0) (SU n b 0 p)
  | r + 1 => fun p => if sg n b (skp n b p) = 33 then notP (UN n b r (skp n b p + 1)) else if sg n b (skp n b p) = 40 then clo n b 41 (condG n b (UN n b r) (skp n b p + 1)) else cmpP n b (SU n b (r + 1)) (SU n b (r + 1) p)
/-- what is known of a reader of expressions -/
def PF (n B : Nat) (ok : zE → Prop) (p : Nat) (a : rRes) : Prop := (a.2.1 = -1 → p < a.1 ∧ a.1 ≤ n ∧ p + (eX a.2.2).length ≤ a.1 ∧ eN a.2.2 ≤ B ∧ ok a.2.2) ∧ (a.2.1 ≠ -1 → 0 ≤ a.2.1 ∧ a.2.1 ≤ n)
theorem PF_up {n B B' : Nat} {ok ok' : zE → Prop} {p p' : Nat} {a : rRes} (h : PF n B ok p a) (hB : B ≤ B') (hk : ∀ e, ok e → ok' e) (hp : p' ≤ p) : PF n B' ok' p' a := ⟨fun hf => by obtain ⟨h1, h2, h3, h4, h5⟩ := h.1 hf; exact ⟨by omega, h2, by omega, by omega, hk _ h5⟩, h.2⟩
theorem PF_bad {n B : Nat} {ok : zE → Prop} {p q : Nat} (h : q ≤ n) : PF n B ok p (q, (q : Int), eD) := ⟨fun hf => absurd (show (q : Int) = -1 from hf) (by omega), fun _ => ⟨by show (0 : Int) ≤ (q : Int); omega, by show (q : Int) ≤ (n : Int); omega⟩⟩
theorem PF_opL {n : Nat} {b : Nat → Nat} {s1 m1 s2 m2 : Int} {it : Nat → rRes} {B : Nat} {ok : zE → Prop} (h1 : s1 ≠ -1) (h2 : s2 ≠ -1) (hk : ∀ a c, ok a → ok c → ok (eBin s1 m1 a c) ∧ ok (eBin s2 m2 a c)) (hi : ∀ q, q ≤ n → PF n B ok q (it q)) (k : Nat) : ∀ p a, PF n (B + 1) ok p a → PF n (B + 1) ok p (opL n b s1 m1 s2 m2 it k a) := by
  induction k with
  | zero => intro p a ha; exact ha
  | succ k ih =>
    intro p a ha
    unfold opL
    by_cases c0 : a.2.1 = -1
    · rw [if_pos c0]
      obtain ⟨a1, a2, a3, a4, a5⟩ := ha.1 c0
      have sk := skp_b (b := b) a2
      by_cases c1 : sg n b (skp n b a.1) = s1 ∨ sg n b (skp n b a.1) = s2
      · have hlt : skp n b a.1 < n := sg_lt (b := b) (by rcases c1 with e | e <;> (rw [e]; assumption))
        rw [if_pos c1]
        have hq := hi (skp n b a.1 + 1) (by omega)
        by_cases c2 : (it (skp n b a.1 + 1)).2.1 = -1
        · rw [if_pos c2]
          obtain ⟨b1, b2, b3, b4, b5⟩ := hq.1 c2
          refine ih p _ ⟨fun _ => ⟨?_, b2, ?_, ?_, ?_⟩, fun h => absurd rfl h⟩
          · show p < (it (skp n b a.1 + 1)).1
            omega
          · show p + (eX a.2.2 ++ (eX (it (skp n b a.1 + 1)).2.2 ++ [-(sg n b (skp n b a.1))])).length ≤ (it (skp n b a.1 + 1)).1
            rw [List.length_append, List.length_append, List.length_singleton]
            omega
          · show max (eN a.2.2) (eN (it (skp n b a.1 + 1)).2.2 + 1) ≤ B + 1
            omega
          · have := hk a.2.2 (it (skp n b a.1 + 1)).2.2 a5 b5
            show ok (eBin (sg n b (skp n b a.1)) (if sg n b (skp n b a.1) = s1 then m1 else m2) a.2.2 (it (skp n b a.1 + 1)).2.2)
            by_cases e1 : sg n b (skp n b a.1) = s1
            · rw [if_pos e1, e1]; exact this.1
            · have e2 : sg n b (skp n b a.1) = s2 := by
                rcases c1 with e | e
                · exact absurd e e1
                · exact e
              rw [if_neg e1, e2]; exact this.2
        · rw [if_neg c2]
          exact ⟨fun h => absurd h c2, hq.2⟩
      · rw [if_neg c1]; exact ha
    · rw [if_neg c0]; exact ha
theorem PF_opG {n : Nat} {b : Nat → Nat} {s1 m1 s2 m2 : Int} {it : Nat → rRes} {B : Nat} {ok : zE → Prop} (h1 : s1 ≠ -1) (h2 : s2 ≠ -1) (hk : ∀ a c, ok a → ok c → ok (eBin s1 m1 a c) ∧ ok (eBin s2 m2 a c)) (hi : ∀ q, q ≤ n → PF n B ok q (it q)) {p : Nat} (hp : p ≤ n) : PF n (B + 1) ok p (opG n b s1 m1 s2 m2 it p) := PF_opL h1 h2 hk hi (n + 1) p _ (PF_up (hi p hp) (Nat.le_succ B) (fun _ h => h) (Nat.le_refl p))
theorem PF_trm {n : Nat} {b : Nat → Nat} {at' : Nat → rRes} {B : Nat} (hi : ∀ q, q ≤ n → PF n B OKe q (at' q)) {p : Nat} (hp : p ≤ n) : PF n (B + 1) OKe p (trm n b at' p) := PF_opG (by decide) (by decide) (fun a c ha hc => ⟨(OKe_bin (by unfold opOK; omega) ha hc (fun h => absurd h (by decide))).1, (OKe_bin (by unfold opOK; omega) ha hc (fun h => absurd h (by decide))).1⟩) hi hp
theorem PF_smm {n : Nat} {b : Nat → Nat} {at' : Nat → rRes} {B : Nat} (hi : ∀ q, q ≤ n → PF n B OKe q (at' q)) {p : Nat} (hp : p ≤ n) : PF n (B + 2) OKe p (smm n b at' p) := PF_opG (by decide) (by decide) (fun a c ha hc => ⟨(OKe_bin (by unfold opOK; omega) ha hc (fun h => absurd h (by decide))).1, (OKe_bin (by unfold opOK; omega) ha hc (fun h => absurd h (by decide))).1⟩) (fun q hq => PF_trm hi hq) hp
theorem PF_clo {n : Nat} {b : Nat → Nat} {B : Nat} {ok : zE → Prop} {c : Int} (hc : c ≠ -1) {p : Nat} {a : rRes} (h : PF n B ok p a) : PF n B ok p (clo n b c a) := by
  unfold clo
  by_cases c0 : a.2.1 = -1
  · rw [if_pos c0]
    obtain ⟨a1, a2, a3, a4, a5⟩ := h.1 c0
    have sk := skp_b (b := b) a2
    by_cases c1 : sg n b (skp n b a.1) = c
    · have hlt : skp n b a.1 < n := sg_lt (b := b) (by rw [c1]; exact hc)
      rw [if_pos c1]
      exact ⟨fun _ => ⟨by show p < skp n b a.1 + 1; omega, by show skp n b a.1 + 1 ≤ n; omega, by show p + (eX a.2.2).length ≤ skp n b a.1 + 1; omega, a4, a5⟩, fun h => absurd rfl h⟩
    · rw [if_neg c1]
      exact PF_bad sk.2.1
  · rw [if_neg c0]; exact h
theorem dig_b {n : Nat} {b : Nat → Nat} (k : Nat) : ∀ q v (M : Int), 0 ≤ v → v ≤ M → q ≤ n → q ≤ (dig n b k q v).1 ∧ (dig n b k q v).1 ≤ n ∧ 0 ≤ (dig n b k q v).2 ∧ (dig n b k q v).2 ≤ (M + 1) * 10 ^ k - 1 := by
  induction k with
  | zero =>
    intro q v M h1 h2 hq
    refine ⟨Nat.le_refl _, hq, h1, ?_⟩
    show v ≤ (M + 1) * 10 ^ 0 - 1
    omega
  | succ k ih =>
    intro q v M h1 h2 hq
    have pw : (1 : Int) ≤ 10 ^ k := Int.pow_pos (by decide)
    have e10 : (10 : Int) ^ (k + 1) = 10 ^ k * 10 := Int.pow_succ ..
    unfold dig
    by_cases c : dgp n b q
    · have lt := dgp_lt c
      rw [if_pos c]
      obtain ⟨r1, r2, r3, r4⟩ := ih (q + 1) (v * 10 + sg n b q - 48) (M * 10 + 9) (by omega) (by omega) (by omega)
      refine ⟨by omega, r2, r3, ?_⟩
      have : (M * 10 + 9 + 1) * (10 : Int) ^ k = (M + 1) * 10 ^ (k + 1) := by
        rw [e10, show M * 10 + 9 + 1 = (M + 1) * 10 by omega, Int.mul_assoc, Int.mul_comm 10]
      omega
    · rw [if_neg c]
      refine ⟨Nat.le_refl _, hq, h1, ?_⟩
      show v ≤ (M + 1) * 10 ^ (k + 1) - 1
      have : (M + 1) * 1 ≤ (M + 1) * (10 : Int) ^ (k + 1) := Int.mul_le_mul_of_nonneg_left (by omega) (by omega)
      omega
theorem dg4_b {n q : Nat} {b : Nat → Nat} (hd : dgp n b q) : q + 1 ≤ (dg4 n b q).1 ∧ (dg4 n b q).1 ≤ n ∧ 0 ≤ (dg4 n b q).2 ∧ (dg4 n b q).2 ≤ 9999 := by
  have lt := dgp_lt hd
  have e : dg4 n b q = dig n b 3 (q + 1) (0 * 10 + sg n b q - 48) := if_pos hd
  obtain ⟨r1, r2, r3, r4⟩ := dig_b (n := n) (b := b) 3 (q + 1) (0 * 10 + sg n b q - 48) 9 (by omega) (by omega) (by omega)
  rw [e]
  exact ⟨r1, r2, r3, by omega⟩
theorem ltr_b (c : Int) : -1 ≤ ltr c ∧ ltr c < 7 := by
  unfold ltr fX11_letterOf
  repeat' split
  all_goals omega
theorem ltr_m1 : ltr (-1) = -1 := by decide
theorem PF_atB {n : Nat} {b : Nat → Nat} {inner : Nat → rRes} {B : Nat} (hB : 1 ≤ B) (hi : ∀ q, q < n → PF n B OKe q (inner q)) {p : Nat} (hp : p ≤ n) : PF n B OKe p (atB n b inner p) := by
  have sk := skp_b (b := b) hp
  unfold atB
  by_cases c0 : dgp n b (skp n b p)
  · rw [if_pos c0]
    obtain ⟨d1, d2, d3, d4⟩ := dg4_b c0
    refine ⟨fun _ => ⟨?_, d2, ?_, hB, OKe_num ⟨d3, d4⟩⟩, fun h => ?_⟩
    · show p < (dg4 n b (skp n b p)).1
      omega
    · show p + 1 ≤ (dg4 n b (skp n b p)).1
      omega
    · show 0 ≤ (if dgp n b (dg4 n b (skp n b p)).1 then ((dg4 n b (skp n b p)).1 : Int) else -1) ∧ _ ≤ _
      have h : (if dgp n b (dg4 n b (skp n b p)).1 then ((dg4 n b (skp n b p)).1 : Int) else -1) ≠ -1 := h
      by_cases c : dgp n b (dg4 n b (skp n b p)).1
      · rw [if_pos c]
        refine ⟨by omega, ?_⟩
        show ((dg4 n b (skp n b p)).1 : Int) ≤ (n : Int)
        omega
      · rw [if_neg c] at h; exact absurd rfl h
  · rw [if_neg c0]
    by_cases c1 : ltr (sg n b (skp n b p)) = -1
    · rw [if_pos c1]
      by_cases c2 : sg n b (skp n b p) = 91
      · rw [if_pos c2]
        have hlt : skp n b p < n := sg_lt (b := b) (by rw [c2]; decide)
        exact PF_up (hi _ hlt) (Nat.le_refl B) (fun _ h => h) sk.1
      · rw [if_neg c2]; exact PF_bad sk.2.1
    · rw [if_neg c1]
      have hlt : skp n b p < n := sg_lt (b := b) (fun e => c1 (by rw [e]; exact ltr_m1))
      have lb := ltr_b (sg n b (skp n b p))
      refine ⟨fun _ => ⟨by show p < skp n b p + 1; omega, by show skp n b p + 1 ≤ n; omega, by show p + 1 ≤ skp n b p + 1; omega, hB, OKe_let (by omega)⟩, fun h => absurd rfl h⟩
theorem PF_AT {n : Nat} {b : Nat → Nat} (r : Nat) : ∀ p, p ≤ n → PF n (2 * r + 1) OKe p (AT n b r p) := by
  induction r with
  | zero => intro p hp; exact PF_atB (Nat.le_refl 1) (fun q hq => PF_bad (by omega)) hp
  | succ r ih =>
    intro p hp
    refine PF_atB (B := 2 * (r + 1) + 1) (by omega) (fun q hq => PF_clo (by decide) ?_) hp
    exact PF_up (PF_smm ih (show q + 1 ≤ n by omega)) (by omega) (fun _ h => h) (by omega)
theorem PF_SU {n : Nat} {b : Nat → Nat} (r : Nat) {p : Nat} (hp : p ≤ n) : PF n (2 * r + 3) OKe p (SU n b r p) := PF_smm (PF_AT r) hp
theorem mS_b {c : Int} (h : isS c) : opOK c (mS c) ∧ 6 ≤ mS c ∧ mS c ≤ 8 := by
  rcases h with rfl | rfl | rfl
  · exact ⟨by unfold opOK; decide, by decide, by decide⟩
  · exact ⟨by unfold opOK; decide, by decide, by decide⟩
  · exact ⟨by unfold opOK; decide, by decide, by decide⟩
theorem PF_cmp {n : Nat} {b : Nat → Nat} {su : Nat → rRes} {B : Nat} (hi : ∀ q, q ≤ n → PF n B OKe q (su q)) {p : Nat} {a : rRes} (ha : PF n B OKe p a) : PF n (B + 1) OKb p (cmpP n b su a) := by
  unfold cmpP
  by_cases c0 : a.2.1 = -1
  · rw [if_pos c0]
    obtain ⟨a1, a2, a3, a4, a5⟩ := ha.1 c0
    have sk := skp_b (b := b) a2
    by_cases c1 : isS (sg n b (skp n b a.1))
    · have hlt : skp n b a.1 < n := sg_lt (b := b) (fun e => by rw [e] at c1; revert c1; decide)
      rw [if_pos c1]
      have hq := hi (skp n b a.1 + 1) (by omega)
      by_cases c2 : (su (skp n b a.1 + 1)).2.1 = -1
      · rw [if_pos c2]
        obtain ⟨b1, b2, b3, b4, b5⟩ := hq.1 c2
        obtain ⟨m1', m2', m3'⟩ := mS_b c1
        refine ⟨fun _ => ⟨?_, b2, ?_, ?_, (OKe_bin m1' a5 b5 (fun h => absurd h (by omega))).2 m2'⟩, fun h => absurd rfl h⟩
        · show p < (su (skp n b a.1 + 1)).1
          omega
        · show p + (eX a.2.2 ++ (eX (su (skp n b a.1 + 1)).2.2 ++ [-(sg n b (skp n b a.1))])).length ≤ (su (skp n b a.1 + 1)).1
          rw [List.length_append, List.length_append, List.length_singleton]
          omega
        · show max (eN a.2.2) (eN (su (skp n b a.1 + 1)).2.2 + 1) ≤ B + 1
          omega
      · rw [if_neg c2]
        exact ⟨fun h => absurd h c2, hq.2⟩
    · rw [if_neg c1]; exact PF_bad sk.2.1
  · rw [if_neg c0]
    exact ⟨fun h => absurd h c0, ha.2⟩
theorem PF_not {n : Nat} {B : Nat} {p q : Nat} {a : rRes} (h : PF n B OKb q a) (hp : p + 1 ≤ q) : PF n B OKb p (notP a) := by
  unfold notP
  by_cases c0 : a.2.1 = -1
  · rw [if_pos c0]
    obtain ⟨a1, a2, a3, a4, a5⟩ := h.1 c0
    refine ⟨fun _ => ⟨by show p < a.1; omega, a2, ?_, a4, OKb_not a5⟩, fun h => absurd rfl h⟩
    show p + (eX a.2.2 ++ [-33]).length ≤ a.1
    rw [List.length_append, List.length_singleton]; omega
  · rw [if_neg c0]
    exact ⟨fun h => absurd h c0, h.2⟩
theorem okAnd (s m : Int) (h : (s = 38 ∧ m = 10) ∨ (s = 124 ∧ m = 11)) : ∀ a c, OKb a → OKb c → OKb (eBin s m a c) ∧ OKb (eBin s m a c) := fun a c ha hc => by
  have h6 : 6 ≤ m := by omega
  have := (OKe_bin (s := s) (m := m) (by unfold opOK; omega) ha.1 hc.1 (fun _ => ⟨ha, hc⟩)).2 h6
  exact ⟨this, this⟩
theorem PF_and {n : Nat} {b : Nat → Nat} {u : Nat → rRes} {B : Nat} (hi : ∀ q, q ≤ n → PF n B OKb q (u q)) {p : Nat} {a : rRes} (ha : PF n (B + 1) OKb p a) : PF n (B + 1) OKb p (andK n b u a) := PF_opL (by decide) (by decide) (okAnd 38 10 (Or.inl ⟨rfl, rfl⟩)) hi _ p a ha
theorem PF_or {n : Nat} {b : Nat → Nat} {u : Nat → rRes} {B : Nat} (hi : ∀ q, q ≤ n → PF n B OKb q (u q)) {p : Nat} {a : rRes} (ha : PF n (B + 2) OKb p a) : PF n (B + 2) OKb p (orK n b u a) := PF_opL (by decide) (by decide) (okAnd 124 11 (Or.inr ⟨rfl, rfl⟩)) (fun q hq => PF_opG (by decide) (by decide) (okAnd 38 10 (Or.inl ⟨rfl, rfl⟩)) hi hq) _ p a ha
theorem PF_cond {n : Nat} {b : Nat → Nat} {u : Nat → rRes} {B : Nat} (hi : ∀ q, q ≤ n → PF n B OKb q (u q)) {p : Nat} (hp : p ≤ n) : PF n (B + 2) OKb p (condG n b u p) := PF_or hi (PF_up (PF_and hi (PF_up (hi p hp) (Nat.le_succ B) (fun _ h => h) (Nat.le_refl p))) (Nat.le_succ _) (fun _ h => h) (Nat.le_refl p))
theorem PF_UN {n : Nat} {b : Nat → Nat} (r : Nat) : ∀ p, p ≤ n → PF n (2 * r + 4) OKb p (UN n b r p) := by
  induction r with
  | zero =>
    intro p hp
    have sk := skp_b (b := b) hp
    unfold UN
    by_cases c : sg n b (skp n b p) = 33 ∨ sg n b (skp n b p) = 40
    · rw [if_pos c]; exact PF_bad sk.2.1
    · rw [if_neg c]; exact PF_cmp (fun q hq => PF_SU 0 hq) (PF_SU 0 hp)
  | succ r ih =>
    intro p hp
    have sk := skp_b (b := b) hp
    unfold UN
    by_cases c : sg n b (skp n b p) = 33
    · have hlt : skp n b p < n := sg_lt (b := b) (by rw [c]; decide)
      rw [if_pos c]
      exact PF_up (PF_not (ih (skp n b p + 1) (by omega)) (show p + 1 ≤ skp n b p + 1 by omega)) (by omega) (fun _ h => h) (Nat.le_refl p)
    · rw [if_neg c]
      by_cases c2 : sg n b (skp n b p) = 40
      · have hlt : skp n b p < n := sg_lt (b := b) (by rw [c2]; decide)
        rw [if_pos c2]
        exact PF_up (PF_clo (by decide) (PF_cond ih (show skp n b p + 1 ≤ n by omega))) (by omega) (fun _ h => h) (by omega)
      · rw [if_neg c2]
        exact PF_up (PF_cmp (fun q hq => PF_SU (r + 1) hq) (PF_SU (r + 1) hp)) (by omega) (fun _ h => h) (Nat.le_refl p)
