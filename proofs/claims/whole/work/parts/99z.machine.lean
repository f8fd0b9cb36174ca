/-! the class's reader of rules as a machine -/
def rk (c : Int) : Int := fX4_rank c
def tr (S : List Int) : Int := match S with
  | [] => 0
  | t :: _ => rk t
def mEm (C : List Int) (x : Int) : List Int := if C.length < 240 then C ++ [x] else C
def mPu (S : List Int) (x : Int) : List Int := if S.length < 48 then x :: S else S
def mRed (r : Int) : List Int → List Int → Int → List Int × List Int × Int
  | [], C, d => (C, [], d)
  | t :: S, C, d => if rk t < r then (C, t :: S, d) else mRed r S (mEm C (-t)) (if t = 33 then d - 1 else d)
def jrk (s : Int) : Int := if rk s < 1 then 1 else rk s
def fitB (s par br : Int) (cp cl cn as' : Bool) : Bool := if s = -1 ∨ s = 59 then decide (br = 0) && (as' || !cn) else if s = 38 ∨ s = 124 then decide (br = 0) && cp else if s = 41 then decide (br = 0) && (cp && decide (0 < par)) else if s = 42 ∨ s = 43 ∨ s = 45 ∨ s = 47 then !cl else if isS s then decide (br = 0) && (!as' && !cp) else if s = 63 then decide (br = 0) && (cp && decide (par = 0)) else if s = 93 then decide (0 < br) else false
def mRun (n : Nat) (b : Nat → Nat) : Nat → Bool → Nat → List Int → List Int → Int → Int → Int → Bool → Bool → Bool → Bool → Bool → Int × List Int × Nat
  | 0, _, p, C, _, _, _, _, _, _, _, _, _ => (-1, C, p)
  | k + 1, true, p, C, S, d, par, br, mu, cp, cl, cn, as' => if dgp n b (skp n b p) then (if dgp n b (dg4 n b (skp n b p)).1 then (((dg4 n b (skp n b p)).1 : Int), [], (dg4 n b (skp n b p)).1) else mRun n b k false (dg4 n b (skp n b p)).1 (mEm C (dg4 n b (skp n b p)).2) S d par br mu cp cl cn as') else if ltr (sg n b (skp n b p)) = -1 then (if d < 6 then (if sg n b (skp n b p) = 91 then mRun n b k true (skp n b p + 1) C (mPu S 91) (d + 1) par (br + 1) false cp cl cn as' else if mu = true ∧ sg n b (skp n b p) = 40 then mRun n b k true (skp n b p + 1) C (mPu S 40) (d + 1) (par + 1) br mu cp cl true as' else if mu = true ∧ sg n b (skp n b p) = 33 then mRun n b k true (skp n b p + 1) C (mPu S 33) (d + 1) par br mu cp cl true as' else ((skp n b p : Int), [], skp n b p)) else ((skp n b p : Int), [], skp n b p)) else mRun n b k false (skp n b p + 1) (mEm C (10000 + ltr (sg n b (skp n b p)))) S d par br mu cp cl cn as'
  | k + 1, false, p, C, S, d, par, br, mu, cp, cl, cn, as' => if fitB (sg n b (skp n b p)) par br cp cl cn as' = true then (if sg n b (skp n b p) = 59 ∨ sg n b (skp n b p) = -1 then (-1, mEm (mRed (jrk (sg n b (skp n b p))) S C d).1 (-59), skp n b p) else if sg n b (skp n b p) = 41 then mRun n b k false (skp n b p + 1) (mRed (jrk (sg n b (skp n b p))) S C d).1 (mRed (jrk (sg n b (skp n b p))) S C d).2.1.tail ((mRed (jrk (sg n b (skp n b p))) S C d).2.2 - 1) (par - 1) br mu cp true cn as' else if sg n b (skp n b p) = 93 then mRun n b k false (skp n b p + 1) (mRed (jrk (sg n b (skp n b p))) S C d).1 (mRed (jrk (sg n b (skp n b p))) S C d).2.1.tail ((mRed (jrk (sg n b (skp n b p))) S C d).2.2 - 1) par (br - 1) mu cp cl cn as' else if sg n b (skp n b p) = 63 then mRun n b k true (skp n b p + 1) (mEm (mRed (jrk (sg n b (skp n b p))) S C d).1 (-63)) (mRed (jrk (sg n b (skp n b p))) S C d).2.1 (mRed (jrk (sg n b (skp n b p))) S C d).2.2 par br false false false cn true else if isS (sg n b (skp n b p)) then mRun n b k true (skp n b p + 1) (mRed (jrk (sg n b (skp n b p))) S C d).1 (mPu (mRed (jrk (sg n b (skp n b p))) S C d).2.1 (sg n b (skp n b p))) (mRed (jrk (sg n b (skp n b p))) S C d).2.2 par br false true cl true as' else if sg n b (skp n b p) = 38 ∨ sg n b (skp n b p) = 124 then mRun n b k true (skp n b p + 1) (mRed (jrk (sg n b (skp n b p))) S C d).1 (mPu (mRed (jrk (sg n b (skp n b p))) S C d).2.1 (sg n b (skp n b p))) (mRed (jrk (sg n b (skp n b p))) S C d).2.2 par br true false false cn as' else mRun n b k true (skp n b p + 1) (mRed (jrk (sg n b (skp n b p))) S C d).1 (mPu (mRed (jrk (sg n b (skp n b p))) S C d).2.1 (sg n b (skp n b p))) (mRed (jrk (sg n b (skp n b p))) S C d).2.2 par br false cp cl cn as') else ((skp n b p : Int), [], skp n b p)
abbrev mSt : Type := Nat → Int × List Int × Nat
def OS (n : Nat) (b : Nat → Nat) (p : Nat) (C S : List Int) (d par br : Int) (mu cp cl cn as' : Bool) : mSt := fun k => mRun n b k true p C S d par br mu cp cl cn as'
def JS (n : Nat) (b : Nat → Nat) (p : Nat) (C S : List Int) (d par br : Int) (mu cp cl cn as' : Bool) : mSt := fun k => mRun n b k false p C S d par br mu cp cl cn as'
theorem mRed_lo {r : Int} {S C : List Int} {d : Int} (h : tr S < r) : mRed r S C d = (C, S, d) := by
  cases S with
  | nil => rfl
  | cons t S => exact if_pos h
theorem rk_b (c : Int) : 0 ≤ rk c ∧ rk c ≤ 6 := by
  unfold rk fX4_rank
  repeat' split
  all_goals omega
/-- the signs by their ranks -/
theorem rk_v {c : Int} (hc : zw c = c) : rk c = if c = 33 then 3 else if c = 38 then 2 else if c = 42 then 6 else if c = 43 then 5 else if c = 45 then 5 else if c = 47 then 6 else if c = 60 then 4 else if c = 61 then 4 else if c = 62 then 4 else if c = 124 then 1 else 0 := by
  unfold rk fX4_rank
  rw [hc]
theorem jrk_b (s : Int) : 1 ≤ jrk s ∧ jrk s ≤ 6 ∧ rk s ≤ jrk s ∧ (jrk s = 1 ∨ jrk s = rk s) := by
  have := rk_b s
  unfold jrk
  split <;> omega
theorem J_bad {n : Nat} {b : Nat → Nat} {p : Nat} {C S : List Int} {d par br : Int} {mu cp cl cn as' : Bool} (h : fitB (sg n b (skp n b p)) par br cp cl cn as' = false) (k : Nat) : JS n b p C S d par br mu cp cl cn as' (k + 1) = ((skp n b p : Int), [], skp n b p) := by
  show mRun n b (k + 1) false p C S d par br mu cp cl cn as' = _
  unfold mRun
  rw [h, if_neg (by decide)]
/-- what waits and binds well enough comes into the code now or later -/
theorem J_red {n : Nat} {b : Nat → Nat} {p : Nat} {C S : List Int} {t d par br : Int} {mu cp cl cn as' : Bool} (hC : C.length < 240) (h : fitB (sg n b (skp n b p)) par br cp cl cn as' = false ∨ jrk (sg n b (skp n b p)) ≤ rk t) (k : Nat) : JS n b p C (t :: S) d par br mu cp cl cn as' (k + 1) = JS n b p (C ++ [-t]) S (if t = 33 then d - 1 else d) par br mu cp cl cn as' (k + 1) := by
  by_cases c : fitB (sg n b (skp n b p)) par br cp cl cn as' = false
  · rw [J_bad c, J_bad c]
  · have hr : jrk (sg n b (skp n b p)) ≤ rk t := by
      rcases h with h | h
      · exact absurd h c
      · exact h
    have e : mRed (jrk (sg n b (skp n b p))) (t :: S) C d = mRed (jrk (sg n b (skp n b p))) S (C ++ [-t]) (if t = 33 then d - 1 else d) := by
      show (if rk t < jrk (sg n b (skp n b p)) then _ else mRed (jrk (sg n b (skp n b p))) S (mEm C (-t)) (if t = 33 then d - 1 else d)) = _
      rw [if_neg (by omega)]
      unfold mEm
      rw [if_pos hC]
    show mRun n b (k + 1) false p C (t :: S) d par br mu cp cl cn as' = mRun n b (k + 1) false p (C ++ [-t]) S (if t = 33 then d - 1 else d) par br mu cp cl cn as'
    unfold mRun
    rw [e]
/-- from x (at p), having read a -/
def Out (n : Nat) (x : mSt) (p : Nat) (a : rRes) (Y : mSt → Prop) : Prop := (a.2.1 ≠ -1 → ∃ j, 1 ≤ j ∧ j ≤ n - p + 1 ∧ ∀ k, (x (k + j)).1 = a.2.1) ∧ (a.2.1 = -1 → ∃ j y, j ≤ a.1 - p ∧ Y y ∧ ∀ k, x (k + 1 + j) = y (k + 1))
theorem Out_step {n : Nat} {x y : mSt} {p p1 i : Nat} {a : rRes} {Y : mSt → Prop} (hp : p + i ≤ p1) (hn : p1 ≤ n) (ha : a.2.1 = -1 → p1 ≤ a.1) (h : ∀ k, x (k + 1 + i) = y (k + 1)) (H : Out n y p1 a Y) : Out n x p a Y := by
  refine ⟨fun hf => ?_, fun hf => ?_⟩
  · obtain ⟨j, j1, j2, j3⟩ := H.1 hf
    refine ⟨i + j, by omega, by omega, fun k => ?_⟩
    have := h (k + (j - 1))
    rw [show k + (i + j) = k + (j - 1) + 1 + i by omega, this, show k + (j - 1) + 1 = k + j by omega]
    exact j3 k
  · obtain ⟨j, z, j1, j2, j3⟩ := H.2 hf
    have := ha hf
    refine ⟨i + j, z, by omega, j2, fun k => ?_⟩
    have := h (k + j)
    rw [show k + 1 + (i + j) = k + j + 1 + i by omega, this, show k + j + 1 = k + 1 + j by omega]
    exact j3 k
theorem Out_bad {n : Nat} {x : mSt} {p q : Nat} {Y : mSt → Prop} {e : zE} (h : ∀ k, x (k + 1) = ((q : Int), [], q)) : Out n x p (q, (q : Int), e) Y := ⟨fun _ => ⟨1, Nat.le_refl 1, by omega, fun k => by rw [h k]⟩, fun hf => absurd (show (q : Int) = -1 from hf) (by omega)⟩
theorem Out_here {n : Nat} {x : mSt} {p : Nat} {a : rRes} {Y : mSt → Prop} (hf : a.2.1 = -1) (h : Y x) : Out n x p a Y := ⟨fun h => absurd hf h, fun _ => ⟨0, x, Nat.zero_le _, h, fun _ => rfl⟩⟩
theorem Out_up {n : Nat} {x : mSt} {p : Nat} {a : rRes} {Y Z : mSt → Prop} (H : Out n x p a Y) (h : a.2.1 = -1 → ∀ y, Y y → Z y) : Out n x p a Z := ⟨H.1, fun hf => by obtain ⟨j, y, j1, j2, j3⟩ := H.2 hf; exact ⟨j, y, j1, h hf y j2, j3⟩⟩
/-- two readers, one behind the other: what the first leaves and what the second makes of it -/
theorem Out_then {n : Nat} {x : mSt} {p : Nat} {a a' : rRes} {Y Z : mSt → Prop} (hp : p ≤ n) (H : Out n x p a Y) (hbad : a.2.1 ≠ -1 → a'.2.1 = a.2.1) (hok : a.2.1 = -1 → (p ≤ a.1 ∧ a.1 ≤ n ∧ (a'.2.1 = -1 → a.1 ≤ a'.1)) ∧ ∀ y, Y y → Out n y a.1 a' Z) : Out n x p a' Z := by
  by_cases c : a.2.1 = -1
  · obtain ⟨j, y, j1, j2, j3⟩ := H.2 c
    obtain ⟨⟨o1, o2, o3⟩, o4⟩ := hok c
    exact Out_step (p1 := a.1) (i := j) (by omega) o2 o3 j3 (o4 y j2)
  · obtain ⟨j, j1, j2, j3⟩ := H.1 c
    have e := hbad c
    refine ⟨fun _ => ⟨j, j1, j2, fun k => by rw [e]; exact j3 k⟩, fun hf => absurd (e.symm.trans hf) c⟩
/-- behind a state that reads like another -/
theorem Out_cg {n : Nat} {x y : mSt} {p : Nat} {a : rRes} {Y : mSt → Prop} (h : ∀ k, x (k + 1) = y (k + 1)) (H : Out n y p a Y) : Out n x p a Y := by
  refine ⟨fun hf => ?_, fun hf => ?_⟩
  · obtain ⟨j, j1, j2, j3⟩ := H.1 hf
    refine ⟨j, j1, j2, fun k => ?_⟩
    have := h (k + (j - 1))
    rw [show k + (j - 1) + 1 = k + j by omega] at this
    rw [this]; exact j3 k
  · obtain ⟨j, z, j1, j2, j3⟩ := H.2 hf
    refine ⟨j, z, j1, j2, fun k => ?_⟩
    have := h (k + j)
    rw [show k + j + 1 = k + 1 + j by omega] at this
    rw [this]; exact j3 k
