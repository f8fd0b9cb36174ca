/-! the clauses of a rule's text -/
def dC : rCl := (false, eD, eD)
def cT (n : Nat) (b : Nat → Nat) (q : Nat) : Bool × rRes := if sg n b (skp n b q) = 33 ∨ sg n b (skp n b q) = 40 then (true, condG n b (UN n b 6) q) else if (SU n b 6 q).2.1 = -1 ∧ isS (sg n b (skp n b (SU n b 6 q).1)) then (true, orK n b (UN n b 6) (andK n b (UN n b 6) (cmpP n b (SU n b 6) (SU n b 6 q)))) else (false, SU n b 6 q)
def cQ (n : Nat) (b : Nat → Nat) (t : Bool × rRes) : Nat × Int × rCl := if t.2.2.1 = -1 then (if t.1 = true then (if sg n b (skp n b t.2.1) = 63 then ((SU n b 6 (skp n b t.2.1 + 1)).1, (SU n b 6 (skp n b t.2.1 + 1)).2.1, (true, t.2.2.2, (SU n b 6 (skp n b t.2.1 + 1)).2.2)) else (skp n b t.2.1, (skp n b t.2.1 : Int), dC)) else (t.2.1, -1, (false, eD, t.2.2.2))) else (t.2.1, t.2.2.1, dC)
def clP (n : Nat) (b : Nat → Nat) (p : Nat) : Nat × Int × rCl := if sg n b (skp n b p) = 121 then (if sg n b (skp n b (skp n b p + 1)) = 58 then cQ n b (cT n b (skp n b (skp n b p + 1) + 1)) else (skp n b (skp n b p + 1), (skp n b (skp n b p + 1) : Int), dC)) else (skp n b p, (skp n b p : Int), dC)
def lwP (n : Nat) (b : Nat → Nat) : Nat → Nat → List rCl → Int × List rCl
  | 0, _, acc => (0, acc)
  | k + 1, p, acc => if (clP n b p).2.1 = -1 then (if sg n b (skp n b (clP n b p).1) = 59 then lwP n b k (skp n b (clP n b p).1 + 1) (acc ++ [(clP n b p).2.2]) else (if sg n b (skp n b (clP n b p).1) = -1 then -1 else (skp n b (clP n b p).1 : Int), acc ++ [(clP n b p).2.2])) else ((clP n b p).2.1, acc)
def lwR (n : Nat) (b : Nat → Nat) : Int × List rCl := lwP n b (n + 1) 0 []
theorem cT_F {n : Nat} {b : Nat → Nat} {q : Nat} (hq : q ≤ n) : PF n 18 OKe q (cT n b q).2 := by
  unfold cT
  by_cases c1 : sg n b (skp n b q) = 33 ∨ sg n b (skp n b q) = 40
  · rw [if_pos c1]
    exact PF_up (PF_cond (PF_UN 6) hq) (by decide) (fun _ h => h.1) (Nat.le_refl q)
  · rw [if_neg c1]
    by_cases c2 : (SU n b 6 q).2.1 = -1 ∧ isS (sg n b (skp n b (SU n b 6 q).1))
    · rw [if_pos c2]
      have h := PF_cmp (b := b) (su := SU n b 6) (fun r hr => PF_SU 6 hr) (PF_SU (b := b) 6 hq)
      exact PF_up (PF_or (B := 16) (PF_UN 6) (PF_up (PF_and (B := 16) (PF_UN 6) (PF_up h (by decide) (fun _ h => h) (Nat.le_refl q))) (by decide) (fun _ h => h) (Nat.le_refl q))) (by decide) (fun _ h => h.1) (Nat.le_refl q)
    · rw [if_neg c2]
      exact PF_up (PF_SU 6 hq) (by decide) (fun _ h => h) (Nat.le_refl q)
/-- what is known of a clause that begins at p (behind its colon at p + 2 or later) -/
theorem cQ_F {n : Nat} {b : Nat → Nat} {q : Nat} (hq : q ≤ n) : ((cQ n b (cT n b q)).2.1 = -1 → q < (cQ n b (cT n b q)).1 ∧ (cQ n b (cT n b q)).1 ≤ n ∧ q + (clsX (cQ n b (cT n b q)).2.2).length ≤ (cQ n b (cT n b q)).1 + 1 ∧ q + (tlC (cQ n b (cT n b q)).2.2 + (eM (cQ n b (cT n b q)).2.2.2.2).length) ≤ (cQ n b (cT n b q)).1 ∧ OKc (cQ n b (cT n b q)).2.2) ∧ ((cQ n b (cT n b q)).2.1 ≠ -1 → 0 ≤ (cQ n b (cT n b q)).2.1 ∧ (cQ n b (cT n b q)).2.1 ≤ n) := by
  have hT := cT_F (b := b) hq
  obtain ⟨t, et⟩ : ∃ t, t = cT n b q := ⟨_, rfl⟩
  rw [← et] at hT ⊢
  unfold cQ
  by_cases c0 : t.2.2.1 = -1
  · rw [if_pos c0]
    obtain ⟨t1, t2, t3, t4, t5⟩ := hT.1 c0
    have sk := skp_b (b := b) t2
    have lM := t5.1
    by_cases c1 : t.1 = true
    · rw [if_pos c1]
      by_cases c2 : sg n b (skp n b t.2.1) = 63
      · have hlt : skp n b t.2.1 < n := sg_lt (b := b) (by rw [c2]; decide)
        rw [if_pos c2]
        have hS := PF_SU (b := b) 6 (show skp n b t.2.1 + 1 ≤ n by omega)
        refine ⟨fun h => ?_, hS.2⟩
        obtain ⟨s1, s2, s3, s4, s5⟩ := hS.1 h
        have lM2 := s5.1
        refine ⟨?_, s2, ?_, ?_, fun _ => ⟨t5, by show eN t.2.2.2 ≤ 48; omega⟩, s5, ?_⟩
        · show q < (SU n b 6 (skp n b t.2.1 + 1)).1
          omega
        · show q + ((if true = true then eX t.2.2.2 ++ [-63] else []) ++ (eX (SU n b 6 (skp n b t.2.1 + 1)).2.2 ++ [-59])).length ≤ (SU n b 6 (skp n b t.2.1 + 1)).1 + 1
          rw [if_pos rfl, List.length_append, List.length_append, List.length_append, List.length_singleton, List.length_singleton]
          omega
        · show q + ((if true = true then (eM t.2.2.2).length else 0) + (eM (SU n b 6 (skp n b t.2.1 + 1)).2.2).length) ≤ (SU n b 6 (skp n b t.2.1 + 1)).1
          rw [if_pos rfl]
          omega
        · show eN (SU n b 6 (skp n b t.2.1 + 1)).2.2 ≤ 48
          omega
      · rw [if_neg c2]
        refine ⟨fun h => ?_, fun _ => ⟨?_, ?_⟩⟩
        · have h : (skp n b t.2.1 : Int) = -1 := h
          omega
        · show (0 : Int) ≤ (skp n b t.2.1 : Int)
          omega
        · show (skp n b t.2.1 : Int) ≤ n
          omega
    · rw [if_neg c1]
      refine ⟨fun _ => ⟨t1, t2, ?_, ?_, fun h => absurd (show false = true from h) (by decide), t5, ?_⟩, fun h => absurd rfl h⟩
      · show q + ((if false = true then _ else []) ++ (eX t.2.2.2 ++ [-59])).length ≤ t.2.1 + 1
        rw [if_neg (by decide), List.length_append, List.length_append, List.length_singleton, List.length_nil]
        omega
      · show q + ((if false = true then _ else 0) + (eM t.2.2.2).length) ≤ t.2.1
        rw [if_neg (by decide)]
        omega
      · show eN t.2.2.2 ≤ 48
        omega
  · rw [if_neg c0]
    exact ⟨fun h => absurd h c0, hT.2⟩
theorem clP_F {n : Nat} {b : Nat → Nat} {p : Nat} (hp : p ≤ n) : ((clP n b p).2.1 = -1 → p + 3 ≤ (clP n b p).1 ∧ (clP n b p).1 ≤ n ∧ p + 1 + (clsX (clP n b p).2.2).length ≤ (clP n b p).1 ∧ p + 2 + (tlC (clP n b p).2.2 + (eM (clP n b p).2.2.2.2).length) ≤ (clP n b p).1 ∧ OKc (clP n b p).2.2) ∧ ((clP n b p).2.1 ≠ -1 → 0 ≤ (clP n b p).2.1 ∧ (clP n b p).2.1 ≤ n) := by
  have sk := skp_b (b := b) hp
  have bad : ∀ q : Nat, q ≤ n → (((q, (q : Int), dC) : Nat × Int × rCl).2.1 = -1 → False) ∧ (0 ≤ ((q, (q : Int), dC) : Nat × Int × rCl).2.1 ∧ ((q, (q : Int), dC) : Nat × Int × rCl).2.1 ≤ n) := fun q hq => ⟨fun h => by have h : (q : Int) = -1 := h; omega, by show (0 : Int) ≤ (q : Int); omega, by show (q : Int) ≤ (n : Int); omega⟩
  unfold clP
  by_cases c1 : sg n b (skp n b p) = 121
  · have h1 : skp n b p < n := sg_lt (b := b) (by rw [c1]; decide)
    have sk2 := skp_b (b := b) (show skp n b p + 1 ≤ n by omega)
    rw [if_pos c1]
    by_cases c2 : sg n b (skp n b (skp n b p + 1)) = 58
    · have h2 : skp n b (skp n b p + 1) < n := sg_lt (b := b) (by rw [c2]; decide)
      rw [if_pos c2]
      have hF := cQ_F (b := b) (show skp n b (skp n b p + 1) + 1 ≤ n by omega)
      refine ⟨fun h => ?_, hF.2⟩
      obtain ⟨f1, f2, f3, f4, f5⟩ := hF.1 h
      exact ⟨by omega, f2, by omega, by omega, f5⟩
    · rw [if_neg c2]
      exact ⟨fun h => ((bad _ sk2.2.1).1 h).elim, fun _ => (bad _ sk2.2.1).2⟩
  · rw [if_neg c1]
    exact ⟨fun h => ((bad _ sk.2.1).1 h).elim, fun _ => (bad _ sk.2.1).2⟩
theorem lawX_app (a c : List rCl) : lawX (a ++ c) = lawX a ++ lawX c := by
  induction a with
  | nil => rfl
  | cons x a ih =>
    show clsX x ++ lawX (a ++ c) = clsX x ++ lawX a ++ lawX c
    rw [ih, List.append_assoc]
theorem lawX_1 (a : List rCl) (c : rCl) : lawX (a ++ [c]) = lawX a ++ clsX c := by
  rw [lawX_app]
  show lawX a ++ (clsX c ++ []) = _
  rw [List.append_nil]
theorem lawL_1 (a : List rCl) (c : rCl) : lawL (a ++ [c]) = lawL a + (tlC c + (eM c.2.2).length) := by
  induction a with
  | nil => show tlC c + (eM c.2.2).length + 0 = 0 + _; omega
  | cons x a ih =>
    show tlC x + (eM x.2.2).length + lawL (a ++ [c]) = tlC x + (eM x.2.2).length + lawL a + _
    rw [ih]; omega
/-- what is valid of clauses read up to p -/
def LV (p : Nat) (cs : List rCl) : Prop := (∀ c, c ∈ cs → OKc c) ∧ (lawX cs).length ≤ p ∧ lawL cs ≤ p ∧ 3 * cs.length ≤ p
theorem LV_1 {n : Nat} {b : Nat → Nat} {p : Nat} {cs : List rCl} (hp : p ≤ n) (V : LV p cs) (h : (clP n b p).2.1 = -1) : LV (clP n b p).1 (cs ++ [(clP n b p).2.2]) := by
  obtain ⟨f1, f2, f3, f4, f5⟩ := (clP_F (b := b) hp).1 h
  obtain ⟨v1, v2, v3, v4⟩ := V
  refine ⟨fun c hc => ?_, ?_, ?_, ?_⟩
  · rcases List.mem_append.mp hc with h | h
    · exact v1 c h
    · rw [List.mem_singleton.mp h]; exact f5
  · rw [lawX_1, List.length_append]; omega
  · rw [lawL_1]; omega
  · rw [List.length_append, List.length_singleton]; omega
theorem LV_up {p q : Nat} {cs : List rCl} (V : LV p cs) (h : p ≤ q) : LV q cs := ⟨V.1, Nat.le_trans V.2.1 h, Nat.le_trans V.2.2.1 h, Nat.le_trans V.2.2.2 h⟩
theorem lwP_F {n : Nat} {b : Nat → Nat} (k : Nat) : ∀ p acc, p ≤ n → LV p acc → n < p + k → -1 ≤ (lwP n b k p acc).1 ∧ (lwP n b k p acc).1 ≤ n ∧ ((lwP n b k p acc).1 = -1 → LV n (lwP n b k p acc).2) := by
  induction k with
  | zero => intro p acc hp V hk; omega
  | succ k ih =>
    intro p acc hp V hk
    have hF := clP_F (b := b) hp
    unfold lwP
    by_cases c0 : (clP n b p).2.1 = -1
    · obtain ⟨f1, f2, f3, f4, f5⟩ := hF.1 c0
      have sk := skp_b (b := b) f2
      have V1 := LV_1 hp V c0
      rw [if_pos c0]
      by_cases c1 : sg n b (skp n b (clP n b p).1) = 59
      · have hlt : skp n b (clP n b p).1 < n := sg_lt (b := b) (by rw [c1]; decide)
        rw [if_pos c1]
        exact ih _ _ (by omega) (LV_up V1 (by omega)) (by omega)
      · rw [if_neg c1]
        refine ⟨?_, ?_, fun _ => LV_up V1 f2⟩
        · show -1 ≤ (if sg n b (skp n b (clP n b p).1) = -1 then (-1 : Int) else (skp n b (clP n b p).1 : Int))
          split <;> omega
        · show (if sg n b (skp n b (clP n b p).1) = -1 then (-1 : Int) else (skp n b (clP n b p).1 : Int)) ≤ n
          split <;> omega
    · rw [if_neg c0]
      have := hF.2 c0
      exact ⟨by show -1 ≤ (clP n b p).2.1; omega, this.2, fun h => absurd h c0⟩
theorem lwR_F {n : Nat} {b : Nat → Nat} : -1 ≤ (lwR n b).1 ∧ (lwR n b).1 ≤ n ∧ ((lwR n b).1 = -1 → LV n (lwR n b).2) := lwP_F (n + 1) 0 [] (Nat.zero_le n) ⟨fun c hc => absurd hc List.not_mem_nil, Nat.le_refl 0, Nat.le_refl 0, Nat.le_refl 0⟩ (by omega)
