/-! the abstract heap: a row of integers an object; integers stand for machine ints by zi -/
abbrev zH : Type := Nat → Nat → Int
def zi (x : Int) : Int32 := Int32.ofInt x
def zl (x : Int) : Int64 := Int64.ofInt x
def zw (x : Int) : Int := (zi x).toInt
def zwl (x : Int) : Int := (zl x).toInt
def zs (h : zH) (o j : Nat) (v : Int) : zH := fun a => if a = o then (fun b => if b = j then v else h a b) else h a
def zdiv (a b : Int) : Int := (zi a / zi b).toInt
def zrem (a b : Int) : Int := (zi a - zi a / zi b * zi b).toInt
def zand (a b : Int) : Int := (zi a &&& zi b).toInt
def zor (a b : Int) : Int := (zi a ||| zi b).toInt
def zxor (a b : Int) : Int := (zi a ^^^ zi b).toInt
def zshl (a b : Int) : Int := (zi a <<< (zi b &&& 31)).toInt
def zshr (a b : Int) : Int := (zi a >>> (zi b &&& 31)).toInt
def zushr (a b : Int) : Int := ((zi a).toUInt32 >>> ((zi b).toUInt32 &&& Int32.toUInt32 31)).toInt32.toInt
def zldiv (a b : Int) : Int := (zl a / zl b).toInt
def zlrem (a b : Int) : Int := (zl a - zl a / zl b * zl b).toInt
def zlushr (a b : Int) : Int := ((zl a).toUInt64 >>> ((zi b).toInt64.toUInt64 &&& Int64.toUInt64 63)).toInt64.toInt
def zl2i (a : Int) : Int := (zl a).toInt32.toInt
def zlet {α β : Type} (v : α) (f : α → β) : β := f v
def zb {α β : Type} (x : Option α) (f : α → Option β) : Option β := match x with
  | none => none
  | some a => f a
def z2 {β : Type} (x : Option (Int × zH)) (f : Int → zH → Option β) : Option β := match x with
  | none => none
  | some a => f a.1 a.2
def zlet2 {β : Type} (x : Int × zH) (f : Int → zH → β) : β := f x.1 x.2
theorem zlet_e {α β : Type} {v : α} {f : α → β} {r : β} (h : zlet v f = r) : ∃ x, x = v ∧ f x = r := ⟨v, rfl, h⟩
theorem zlet2_e {β : Type} {v : Int × zH} {f : Int → zH → β} {r : β} (h : zlet2 v f = r) : ∃ x y, v = (x, y) ∧ f x y = r := ⟨v.1, v.2, rfl, h⟩
theorem zb_e {α β : Type} {x : Option α} {f : α → Option β} {r : β} (h : zb x f = some r) : ∃ v, x = some v ∧ f v = some r := by
  cases x with
  | none => cases h
  | some v => exact ⟨v, rfl, h⟩
theorem z2_e {β : Type} {x : Option (Int × zH)} {f : Int → zH → Option β} {r : β} (h : z2 x f = some r) : ∃ v g, x = some (v, g) ∧ f v g = some r := by
  cases x with
  | none => cases h
  | some v => exact ⟨v.1, v.2, rfl, h⟩
theorem zif_none {c : Prop} {α : Type} {x : α} {y : Option α} {_ : Decidable c} (h : (if c then y else none) = some x) : c ∧ y = some x := by
  by_cases hc : c
  · rw [if_pos hc] at h; exact ⟨hc, h⟩
  · rw [if_neg hc] at h; cases h
theorem zi_add (a b : Int) : zi a + zi b = zi (a + b) := (Int32.ofInt_add a b).symm
theorem zi_sub (a b : Int) : zi a - zi b = zi (a - b) := (Int32.ofInt_sub a b).symm
theorem zi_mul (a b : Int) : zi a * zi b = zi (a * b) := (Int32.ofInt_mul a b).symm
theorem zi_neg (a : Int) : -zi a = zi (-a) := (Int32.ofInt_neg a).symm
theorem zl_add (a b : Int) : zl a + zl b = zl (a + b) := (Int64.ofInt_add a b).symm
theorem zl_sub (a b : Int) : zl a - zl b = zl (a - b) := (Int64.ofInt_sub a b).symm
theorem zl_mul (a b : Int) : zl a * zl b = zl (a * b) := (Int64.ofInt_mul a b).symm
theorem zi_toInt (x : Int32) : zi x.toInt = x := Int32.ofInt_toInt x
theorem zl_toInt (x : Int64) : zl x.toInt = x := Int64.ofInt_toInt x
theorem zi_zw (x : Int) : zi (zw x) = zi x := zi_toInt _
theorem zi_inj {a b : Int} : zi a = zi b ↔ zw a = zw b := ⟨fun h => by unfold zw; rw [h], fun h => Int32.toInt_inj.mp h⟩
theorem zi_lt {a b : Int} : zi a < zi b ↔ zw a < zw b := Int32.lt_iff_toInt_lt
theorem zi_le {a b : Int} : zi a ≤ zi b ↔ zw a ≤ zw b := Int32.le_iff_toInt_le
theorem zw_lt (x : Int) : zw x < 2147483648 := Int32.toInt_lt _
theorem zw_le (x : Int) : -2147483648 ≤ zw x := Int32.le_toInt _
theorem zw_id {x : Int} (h : -2147483648 ≤ x ∧ x < 2147483648) : zw x = x := by
  exact Int32.toInt_ofInt_of_le h.1 h.2
theorem zw_0 : zw 0 = 0 := by decide
theorem zi_0 : zi 0 = 0 := by decide
theorem zw_zw (x : Int) : zw (zw x) = zw x := by unfold zw; rw [zi_toInt]
theorem zi_nat (x : Int) : (zi x).toNatClampNeg = (zw x).toNat := rfl
theorem zi_ofNat (n : Nat) : Int32.ofNat n = zi (n : Int) := Int32.ofInt_eq_ofNat.symm
theorem zs_row_ne {h : zH} {o j a : Nat} {v : Int} (hn : a ≠ o) : zs h o j v a = h a := if_neg hn
theorem zs_row {h : zH} {o j : Nat} {v : Int} : zs h o j v o = fun b => if b = j then v else h o b := if_pos rfl
/-! objects: the heap of the class's and the reference's objects as one list of cells, the object o at the place o -/
abbrev zSg : Type := (Nat → Nat) × (Nat → Nat) × (Nat → Nat)
def zN : Nat := 76
def zkd (o : Nat) : Nat := ([10, 9, 1, 1, 4, 5, 2, 8, 8, 8, 0, 3, 6, 7, 11] : List Nat).getD o 100
def zln (o : Nat) : Nat := ([0, 0, 0, 0, 0, 0, 0, 0, 0, 0, 0, 0, 0, 0, 0, 240, 128, 4, 8, 128, 4, 8, 240, 48, 960, 4, 48, 192, 4, 48, 51, 420, 7, 6, 51, 0, 7, 6, 51, 420, 7, 6, 2040, 6144, 6, 8, 12, 12, 6, 240, 2600, 2600, 5, 5, 700, 700, 700, 7, 80, 2, 18, 16, 24, 2, 18, 16, 24, 240, 5, 165, 6600, 165, 6, 12, 12, 165, 3125] : List Nat).getD o 0
def znf (c : Nat) : Nat := ([3, 3, 5, 1, 13, 6, 6, 4, 4, 4, 16, 50] : List Nat).getD c 0
def zfk (c k : Nat) : Nat := (([[0, 1, 0], [1, 1, 1], [0, 1, 1, 1, 0], [1], [1, 0, 1, 0, 0, 0, 0, 0, 0, 0, 0, 0, 0], [0, 0, 1, 1, 1, 0], [1, 1, 0, 3, 0, 0], [0, 1, 1, 1], [1, 1, 1, 1], [1, 0, 0, 0], [1, 1, 1, 1, 1, 1, 1, 1, 1, 1, 1, 1, 1, 0, 0, 2], [0, 1, 0, 0, 0, 0, 1, 1, 1, 1, 1, 1, 1, 0, 0, 1, 1, 1, 1, 1, 1, 0, 0, 0, 1, 1, 1, 1, 0, 0, 0, 1, 1, 0, 1, 0, 0, 1, 0, 1, 0, 0, 0, 1, 1, 1, 0, 2, 1, 0]] : List (List Nat)).getD c []).getD k 0
def zfr (o k : Nat) : Nat := (([[1, 2, 3, 4, 5, 6, 7, 8, 9, 10, 11, 12, 13, 0, 0, 0], [15, 0, 0, 0], [16, 17, 18], [19, 20, 21], [22, 0, 23, 0, 0, 0, 0, 0, 0, 0, 0, 0, 0], [0, 0, 24, 25, 26, 0], [0, 27, 28, 29, 0], [30, 31, 32, 33], [34, 35, 36, 37], [38, 39, 40, 41], [0, 42, 0], [43], [44, 45, 0, 0, 0, 0], [0, 46, 47, 48], [0, 49, 0, 0, 0, 0, 50, 51, 52, 53, 54, 55, 56, 0, 0, 57, 58, 59, 60, 61, 62, 0, 0, 0, 63, 64, 65, 66, 0, 0, 0, 67, 68, 0, 69, 0, 0, 70, 0, 71, 0, 0, 0, 72, 73, 74, 0, 0, 75, 0]] : List (List Nat)).getD o []).getD k 0
/-- a field's value -/
def zfv (α : Nat → Nat) (n : Nat) (o : Nat) (r : Nat → Int) (k : Nat) : Value := match zfk (zkd o) k with
  | 0 => .int (zi (r k))
  | 1 => .ref (α (zfr o k))
  | 2 => .long (zl (r k))
  | _ => if zN < n then .ref (α zN) else .null
def zent (cy : ClassId) (α : Nat → Nat) (n : Nat) (o : Nat) (r : Nat → Int) : va_E := if zkd o < 100 then .inr (zkd o, (List.range (znf (zkd o))).map (zfv α n o r)) else .inl (cy, zln o, .inl (fun j => zi (r j)))
def zws (cy : ClassId) (α : Nat → Nat) (n : Nat) (h : zH) : va_W := (List.range n).map fun o => (α o, zent cy α n o (h o))
def zJ (α : Nat → Nat) (n : Nat) : Prop := ∀ i j, i < n → j < n → α i = α j → i = j
def zA (α : Nat → Nat) (n sz : Nat) : Nat → Prop := fun q => (∃ o, o < n ∧ q = α o) ∨ sz ≤ q
theorem zws_get {cy : ClassId} {α : Nat → Nat} {n : Nat} {h : zH} {o : Nat} (ho : o < n) : (zws cy α n h)[o]? = some (α o, zent cy α n o (h o)) := by
  simp [zws, ho]
theorem zws_inv {cy : ClassId} {α : Nat → Nat} {n : Nat} {h : zH} {i : Nat} {q : Nat × va_E} (hq : (zws cy α n h)[i]? = some q) : i < n ∧ q = (α i, zent cy α n i (h i)) := by
  have hi : i < n := by
    have := (List.getElem?_eq_some_iff.mp hq).1
    simpa [zws] using this
  rw [zws_get hi] at hq
  exact ⟨hi, (Option.some.inj hq).symm⟩
theorem zws_set {cy : ClassId} {α : Nat → Nat} {n : Nat} {h : zH} {o : Nat} {j : Nat} {v : Int} {e : va_E} (ho : o < n) (he : e = zent cy α n o (fun b => if b = j then v else h o b)) : (zws cy α n h).set o (α o, e) = zws cy α n (zs h o j v) := by
  subst he
  apply List.ext_getElem?
  intro i
  rw [List.getElem?_set]
  by_cases hi : o = i
  · subst hi
    rw [if_pos rfl, if_pos (by simp [zws, ho]), zws_get ho, zs_row]
  · rw [if_neg hi]
    by_cases h2 : i < n
    · rw [zws_get h2, zws_get h2, zs_row_ne (Ne.symm hi)]
    · rw [List.getElem?_eq_none (by simp [zws]; omega), List.getElem?_eq_none (by simp [zws]; omega)]
theorem zws_D {cy : ClassId} {α : Nat → Nat} {n sz : Nat} {h : zH} (hJ : zJ α n) : va_D (zA α n sz) (zws cy α n h) := by
  refine ⟨fun i j p q hp hq e => ?_, fun k q hq => ?_⟩
  · obtain ⟨h1, rfl⟩ := zws_inv hp
    obtain ⟨h2, rfl⟩ := zws_inv hq
    exact hJ i j h1 h2 e
  · obtain ⟨h1, rfl⟩ := zws_inv hq
    exact Or.inl ⟨k, h1, rfl⟩
/-! the static arrays and the texts, that nobody writes -/
def zSn (i : Nat) : String := match i with
  | 0 => "UNTOLD"
  | 1 => "CLAUSES"
  | 2 => "LEAST"
  | _ => "MOST"
def zSv (i : Nat) : List Int := match i with
  | 0 => [6, 12, 0, 0, 0, 6, 5, 0, 0, 24, 1, 1, 0, 8, 8, 0]
  | 1 => [1, 6, 4, 8]
  | 2 => [0, 0, 0, 0, 0, 1, 0, 0, 0, 1, 1, 0, 0, 0, 0, 0]
  | _ => [23, 24, 0, 0, 7, 24, 9, 0, 23, 24, 9, 9, 3, 8, 8, 0]
/-- the texts: of KINDS, the ITEMS' letters, SORTS, a RULE's letters -/
def zTx (i : Nat) : String × Nat × String := match i with
  | 0 => ("SunDesk$Hill", 88, "spdr")
  | 1 => ("SunDesk$Hill", 124, "al  fnz octednm ")
  | 2 => ("SunDesk$RuleReader", 90, "hdwkpnz")
  | _ => ("SunDesk$Orders", 42, "fwh")
def zTb (i : Nat) : List Int := match i with
  | 0 => [115, 112, 100, 114]
  | 1 => [97, 108, 32, 32, 102, 110, 122, 32, 111, 99, 116, 101, 100, 110, 109, 32]
  | 2 => [104, 100, 119, 107, 112, 110, 122]
  | _ => [102, 119, 104]
def zisN : Cond → Bool
  | .fieldLinkNest .. | .methodLinkNest .. => true
  | _ => false
def zNe : List Cond := lw_tbl.filter zisN
theorem z_inN {w : Cond} (h : w ∈ lw_tbl) (hg : zisN w = true) : w ∈ zNe := List.mem_filter.mpr ⟨h, hg⟩
theorem zNe_warm {w : Cond} {s U : State} (hm : w ∈ zNe) (hW : s.WarmedH U.vm) (h : va_Nw w s) : va_Nw w U := by
  have h2 := (List.mem_filter.mp hm).2
  cases w <;> first | exact va_Nw.warmF hW h | exact va_Nw.warmM hW h | cases h2
theorem zNe_same {w : Cond} {u U : State} (hm : w ∈ zNe) (hv : U.vm = u.vm) (h : va_Nw w u) : va_Nw w U := by
  have h2 := (List.mem_filter.mp hm).2
  cases w <;> first | exact va_Nw.same rfl hv.symm h | cases h2
def zZq (i : Nat) : String × String × String := match i with
  | 0 => ("jdk/internal/util/Preconditions", "SIOOBE_FORMATTER", "Ljava/util/function/BiFunction;")
  | 1 => ("java/lang/Throwable", "UNASSIGNED_STACK", "[Ljava/lang/StackTraceElement;")
  | _ => ("java/lang/Throwable", "SUPPRESSED_SENTINEL", "Ljava/util/List;")
def zG (σ : zSg) (A : Nat → Prop) (U : State) (H : Heap) : Prop :=
  (∀ i, i < 4 → va_Z "SunDesk$Hill" (zSn i) "[I" (.ref (σ.1 i)) A U H ∧ va_T .int (σ.1 i) (zSv i).length (fun j => .int (zi ((zSv i).getD j 0))) A U H) ∧
  va_Z "java/lang/String" "COMPACT_STRINGS" "Z" (.int 1) A U H ∧
  vk_S 4 [4, 16, 7, 3] [(zTb 0).map zi, (zTb 1).map zi, (zTb 2).map zi, (zTb 3).map zi] σ.2.1 σ.2.2 A U H ∧
  (∀ i, i < 4 → vk_R (zTx i).1 (zTx i).2.1 (zTx i).2.2 (σ.2.1 i) U) ∧
  (∀ i, i < 3 → va_Zq (zZq i).1 (zZq i).2.1 (zZq i).2.2 A U H) ∧
  (∀ w ∈ zNe, va_Nw w U)
theorem zG.kept {σ : zSg} {A : Nat → Prop} {U : State} {H H1 : Heap} (h : zG σ A U H) (hq : ∀ a : Nat, a < H.size → ¬ A a → H1[a]? = H[a]?) : zG σ A U H1 :=
  ⟨fun i hi => ⟨(h.1 i hi).1.kept hq, (h.1 i hi).2.kept hq⟩, h.2.1.kept hq, h.2.2.1.kept hq, h.2.2.2.1, fun i hi => (h.2.2.2.2.1 i hi).kept hq, h.2.2.2.2.2⟩
theorem zG.narrow {σ : zSg} {A B : Nat → Prop} {U : State} {H : Heap} (h : zG σ A U H) (hAB : ∀ q, B q → A q) : zG σ B U H :=
  ⟨fun i hi => ⟨(h.1 i hi).1.narrow hAB, (h.1 i hi).2.narrow hAB⟩, h.2.1.narrow hAB, h.2.2.1.narrow hAB, h.2.2.2.1, fun i hi => (h.2.2.2.2.1 i hi).narrow hAB, h.2.2.2.2.2⟩
theorem zG.warm {σ : zSg} {A : Nat → Prop} {u U : State} {H : Heap} (hW : u.WarmedH U.vm) (h : zG σ A u H) : zG σ A U H :=
  ⟨fun i hi => ⟨(h.1 i hi).1.moved hW.alike, (h.1 i hi).2.moved hW.alike⟩, h.2.1.moved hW.alike, h.2.2.1.moved hW.alike, fun i hi => (h.2.2.2.1 i hi).warm hW, fun i hi => (h.2.2.2.2.1 i hi).moved hW.alike, fun w hw => zNe_warm hw hW (h.2.2.2.2.2 w hw)⟩
theorem zG.same {σ : zSg} {A : Nat → Prop} {u U : State} {H : Heap} (hv : U.vm = u.vm) (h : zG σ A u H) : zG σ A U H :=
  have hA : u.vm.Alike U.vm := by rw [hv]; exact Vm.Alike.refl _
  ⟨fun i hi => ⟨(h.1 i hi).1.moved hA, (h.1 i hi).2.moved hA⟩, h.2.1.moved hA, h.2.2.1.moved hA, fun i hi => (h.2.2.2.1 i hi).same hv, fun i hi => (h.2.2.2.2.1 i hi).moved hA, fun w hw => zNe_same hw hv (h.2.2.2.2.2 w hw)⟩
/-! the words, the room, the contract -/
def zTb' : List Cond := lw_tbl.filter goodWord
theorem z_in {w : Cond} (h : w ∈ lw_tbl) (hg : goodWord w = true) : w ∈ zTb' := List.mem_filter.mpr ⟨h, hg⟩
theorem z_good {y : MethodName} {b : ByteArray} {nl : Nat} {rt : Option FieldType} (h : Cond.code y b nl rt ∈ lw_tbl) : GoodIn zTb' (Cond.code y b nl rt :: zTb') := by
  intro w hw
  have hw2 : w ∈ zTb' := by
    rcases List.mem_cons.mp hw with rfl | h2
    · exact z_in h rfl
    · exact h2
  exact ⟨hw2, good_of_word (List.mem_filter.mp hw2).2⟩
def zrm (d : Nat) : Room := { frames := d, cells := 0, slots := 0, locals := 40 * d }
def zPc (D : va_G) (cy : ClassId) (α : Nat → Nat) (n : Nat) (σ : zSg) (sz : Nat) (av : List Value) (h : zH) : Array Value → State → Prop := fun v U =>
  v = av.toArray ∧ U.heap.size = sz ∧ va_P D vwCl (zws cy α n h) U.heap ∧ va_K D vwCl [(cy, .int)] U ∧ zJ α n ∧ (zN ≤ n ∧ n ≤ zN + 1) ∧ zG σ (zA α n sz) U U.heap
def zQc (D : va_G) (cy : ClassId) (α : Nat → Nat) (n : Nat) (sz : Nat) (rv : Option Value) (h : zH) : Array Value → State → Outcome → State → Prop := fun _ st o t =>
  o = .returned rv ∧ va_P D vwCl (zws cy α n h) t.heap ∧ va_F (zA α n sz) st t
def zMet (l : Launch) (y : MethodName) (b : ByteArray) (nl : Nat) (rt : Option FieldType) (rm : Room) (D : va_G) (cy : ClassId) (α : Nat → Nat) (n : Nat) (σ : zSg) (av : List Value) (h : zH) (rv : Option Value) (h' : zH) : Prop :=
  ∀ sz, Met l y (Cond.code y b nl rt :: zTb') rm (zPc D cy α n σ sz av h) (zQc D cy α n sz rv h') 0 0 (zA α n sz)
theorem zPc_blind {D : va_G} {cy : ClassId} {α : Nat → Nat} {n : Nat} {σ : zSg} {sz : Nat} {av : List Value} {h : zH} : FrameBlind (zPc D cy α n σ sz av h) := by
  intro a U g mk q
  obtain ⟨q0, q1, q2, q3, q4, q5, q6⟩ := q
  exact ⟨q0, q1, q2, va_K.moved (u := U) (U := U.calling g mk a) (Vm.Alike.refl U.vm) q3, q4, q5, zG.same (u := U) (U := U.calling g mk a) rfl q6⟩
/-! the walk's state: all of the machine that does not change within a method -/
abbrev zT : Type := Program × Launch × Env × Room × State × MethodId × Array Value × List Frame × Method × Code × va_G × ClassId × (Nat → Nat) × Nat × zSg × Option Value × zH
abbrev zp (κ : zT) : Program := κ.1
abbrev zla (κ : zT) : Launch := κ.2.1
abbrev ze (κ : zT) : Env := κ.2.2.1
abbrev zR (κ : zT) : Room := κ.2.2.2.1
abbrev zst (κ : zT) : State := κ.2.2.2.2.1
abbrev zm (κ : zT) : MethodId := κ.2.2.2.2.2.1
abbrev zar (κ : zT) : Array Value := κ.2.2.2.2.2.2.1
abbrev zbe (κ : zT) : List Frame := κ.2.2.2.2.2.2.2.1
abbrev zme (κ : zT) : Method := κ.2.2.2.2.2.2.2.2.1
abbrev zc (κ : zT) : Code := κ.2.2.2.2.2.2.2.2.2.1
abbrev zD (κ : zT) : va_G := κ.2.2.2.2.2.2.2.2.2.2.1
abbrev zcy (κ : zT) : ClassId := κ.2.2.2.2.2.2.2.2.2.2.2.1
abbrev zα (κ : zT) : Nat → Nat := κ.2.2.2.2.2.2.2.2.2.2.2.2.1
abbrev zn (κ : zT) : Nat := κ.2.2.2.2.2.2.2.2.2.2.2.2.2.1
abbrev zσ (κ : zT) : zSg := κ.2.2.2.2.2.2.2.2.2.2.2.2.2.2.1
abbrev zrv (κ : zT) : Option Value := κ.2.2.2.2.2.2.2.2.2.2.2.2.2.2.2.1
abbrev zhf (κ : zT) : zH := κ.2.2.2.2.2.2.2.2.2.2.2.2.2.2.2.2
abbrev zAk (κ : zT) : Nat → Prop := zA (zα κ) (zn κ) (zst κ).heap.size
def zC (κ : zT) (own : String) (cc : ByteArray) (nL : Nat) (rt : Option FieldType) : Prop :=
  (zp κ).tables.exec = Jvm.exec ∧ (zc κ).code = cc ∧ (zc κ).maxLocals = nL ∧ (zst κ).vm.findClass own = some (zm κ).cls ∧ (∀ w ∈ zTb', w.before (zar κ) (zst κ) = true) ∧ va_K (zD κ) vwCl [(zcy κ, .int)] (zst κ) ∧ zJ (zα κ) (zn κ) ∧ (zN ≤ zn κ ∧ zn κ ≤ zN + 1) ∧ zG (zσ κ) (zAk κ) (zst κ) (zst κ).heap ∧ (zme κ).locks = false ∧ (zme κ).sig.returnType = rt
def zW (κ : zT) (H : Heap) (locs : List Loc) (g : JFrame) : Prop := W (zp κ) (zla κ) (ze κ) (zR κ) (zst κ) (zm κ) (zar κ) (zbe κ) (zme κ) (zc κ) H locs 0 0 (MQ (zbe κ) (zQc (zD κ) (zcy κ) (zα κ) (zn κ) (zst κ).heap.size (zrv κ) (zhf κ)) (zar κ) (zst κ) 0 0 (zAk κ)) g
def Z (κ : zT) (h : zH) (pc : Nat) (lv : List (Nat × Value)) (st : List Value) : Prop :=
  ∀ (H : Heap) (locs : List Loc), va_P (zD κ) vwCl (zws (zcy κ) (zα κ) (zn κ) h) H → va_S (zAk κ) (zst κ).heap H locs → ∀ ls : Array Slot, lv_has ls (zc κ).maxLocals lv → zW κ H locs (F0 (zm κ) pc ls st)
theorem zofW {l : Launch} {y : MethodName} {ws ws' : List Cond} {rm : Room} {Pc : Array Value → State → Prop} {Qc : Array Value → State → Outcome → State → Prop} {mc ms : Nat} {free : Addr → Prop} {cc : ByteArray} {maxL : Nat} {ret : Option FieldType}
    (hy : plainFor y = true) (hw : ws = Cond.code y cc maxL ret :: ws')
    (body : ∀ p e s m args below meth c s₁, BodyLoose p l y (headSpec ws rm) cc maxL ret e s m args below meth c s₁ → c.maxLocals = maxL → Pc args s →
      W p l e (headSpec ws rm).room s m args below meth c s.heap [] 0 0 (MQ below Qc args s mc ms free) (entryFrame m args maxL)) : Met l y ws rm Pc Qc mc ms free := by
  refine MetFree.of_bodySF (code := cc) (maxLocals := maxL) (ret := ret) hy ?_ ?_
  · intro args s m h hn
    obtain ⟨meth, c, h1, h2, h3, h4, h5, h6, -, -⟩ := Cond.code_spec hn (atoms_spec (ws := ws) h _ (by rw [hw]; exact List.mem_cons_self))
    exact ⟨meth, c, h1, h2, h3, h4, h5, h6⟩
  · intro p e s m args below meth c s₁ B hml hP _
    have hh0 : s₁.heap = s.heap := by rw [B.state]; rfl
    obtain ⟨t, a1, o, b1, b2, b3⟩ := body p e s m args below meth c s₁ B hml hP s₁ hh0 (Stand.of_body B)
    exact ⟨t, o, a1, b1, b2, ⟨b3.1, b3.2⟩⟩
theorem z_met {l : Launch} {y : MethodName} {b : ByteArray} {nl : Nat} {rt : Option FieldType} {rm : Room} {D : va_G} {cy : ClassId} {α : Nat → Nat} {n : Nat} {σ : zSg} {av : List Value} {h : zH} {rv : Option Value} {h' : zH} (hy : plainFor y = true) (hlen : (lg_sl av).length ≤ nl)
    (body : ∀ κ : zT, zla κ = l → zR κ = rm → zD κ = D → zcy κ = cy → zα κ = α → zn κ = n → zσ κ = σ → zrv κ = rv → zhf κ = h' → zC κ y.cls b nl rt → Z κ h 0 (lv_args 0 av) []) : zMet l y b nl rt rm D cy α n σ av h rv h' := by
  intro sz
  refine zofW (cc := b) (maxL := nl) (ret := rt) hy rfl ?_
  intro p e s m args below meth c s₁ B hml hv
  obtain ⟨rfl, rfl, hP, hK, hJ, hn, hG⟩ := hv
  have hts := atoms_spec (ws := Cond.code y b nl rt :: zTb') B.pre
  have hown : s.vm.findClass y.cls = some m.cls := findClass_of_methodNamed B.named
  have C : zC (p, l, e, rm, s, m, av.toArray, below, meth, c, D, cy, α, n, σ, rv, h') y.cls b nl rt :=
    ⟨B.exec, B.bytes, hml, hown, fun w hw => hts w (List.mem_cons_of_mem _ hw), hK, hJ, hn, hG, B.notSynchronized, B.returns⟩
  have hZ := body (p, l, e, rm, s, m, av.toArray, below, meth, c, D, cy, α, n, σ, rv, h') rfl rfl rfl rfl rfl rfl rfl rfl rfl C
  have hl := lv_entry av (n := nl) hlen
  rw [lg_entry_eq]
  refine hZ s.heap [] hP va_S.rf _ ?_
  show lv_has _ c.maxLocals _
  rw [hml]
  exact hl
/-! rows: an instruction each, over the abstract heap -/
section ZR
variable {κ : zT} {own : String} {cc : ByteArray} {nL : Nat} {rt : Option FieldType} {h : zH} {pc q : Nat} {lv lv' : List (Nat × Value)} {st : List Value}
theorem zon (C : zC κ own cc nL rt) {o : Nat} (h : o < zN) : o < zn κ := Nat.lt_of_lt_of_le h C.2.2.2.2.2.2.2.1.1
theorem z_iconst (C : zC κ own cc nL rt) {n : Int} (hdg : decode cc pc = .ok (.iconst n, 1)) (hq : pc + 1 = q) (k : Z κ h q lv (.int (zi n) :: st)) : Z κ h pc lv st := by
  subst hq; intro H locs hP hS ls hl; exact lv_iconst C.1 C.2.1 hdg rfl (k H locs hP hS ls hl)
theorem z_bipush (C : zC κ own cc nL rt) {n : Int} (hdg : decode cc pc = .ok (.bipush n, 2)) (hv : (Int8.ofInt n).toInt32 = zi n) (hq : pc + 2 = q) (k : Z κ h q lv (.int (zi n) :: st)) : Z κ h pc lv st := by
  subst hq; intro H locs hP hS ls hl; exact lv_bipush C.1 C.2.1 hdg hv (k H locs hP hS ls hl)
theorem z_sipush (C : zC κ own cc nL rt) {n : Int} (hdg : decode cc pc = .ok (.sipush n, 3)) (hv : (Int16.ofInt n).toInt32 = zi n) (hq : pc + 3 = q) (k : Z κ h q lv (.int (zi n) :: st)) : Z κ h pc lv st := by
  subst hq; intro H locs hP hS ls hl; exact lv_sipush C.1 C.2.1 hdg hv (k H locs hP hS ls hl)
theorem z_lconst (C : zC κ own cc nL rt) {n : Fin 2} {v : Int} (hdg : decode cc pc = .ok (.lconst n, 1)) (hv : Int64.ofNat (n : Nat) = zl v) (hq : pc + 1 = q) (k : Z κ h q lv (.long (zl v) :: st)) : Z κ h pc lv st := by
  subst hq; intro H locs hP hS ls hl; exact lv_lconst C.1 C.2.1 hdg hv (k H locs hP hS ls hl)
theorem z_ldc (C : zC κ own cc nL rt) {idx : Nat} {v : Int} (hw : Cond.constant own idx (zi v) ∈ lw_tbl) (hdg : decode cc pc = .ok (.ldc idx, 2)) (hq : pc + 2 = q) (k : Z κ h q lv (.int (zi v) :: st)) : Z κ h pc lv st := by
  subst hq; intro H locs hP hS ls hl; exact lv_ldc C.1 C.2.1 C.2.2.2.1 (C.2.2.2.2.1 _ (z_in hw rfl)) hdg (k H locs hP hS ls hl)
theorem z_ldcw (C : zC κ own cc nL rt) {idx : Nat} {v : Int} (hw : Cond.constant own idx (zi v) ∈ lw_tbl) (hdg : decode cc pc = .ok (.ldc_w idx, 3)) (hq : pc + 3 = q) (k : Z κ h q lv (.int (zi v) :: st)) : Z κ h pc lv st := by
  subst hq; intro H locs hP hS ls hl; exact lv_ldcw C.1 C.2.1 C.2.2.2.1 (C.2.2.2.2.1 _ (z_in hw rfl)) hdg (k H locs hP hS ls hl)
theorem z_ldc2 (C : zC κ own cc nL rt) {idx : Nat} {v : Int} (hw : Cond.constantLong own idx (zl v) ∈ lw_tbl) (hdg : decode cc pc = .ok (.ldc2_w idx, 3)) (hq : pc + 3 = q) (k : Z κ h q lv (.long (zl v) :: st)) : Z κ h pc lv st := by
  subst hq; intro H locs hP hS ls hl; exact lv_ldc2 C.1 C.2.1 C.2.2.2.1 (C.2.2.2.2.1 _ (z_in hw rfl)) hdg (k H locs hP hS ls hl)
theorem z_iload_n (C : zC κ own cc nL rt) {k : Fin 4} {i : Nat} {x : Int32} (hdg : decode cc pc = .ok (.iload_n k, 1)) (j : Nat) (hl : lv[j]? = some (i, .int x)) (hi : (k : Nat) = i) (hq : pc + 1 = q) (kk : Z κ h q lv (.int x :: st)) : Z κ h pc lv st := by
  subst hq; intro H locs hP hS ls h1; exact lv_iload_n C.1 C.2.1 hdg hi (lv_at h1 j hl) (kk H locs hP hS ls h1)
theorem z_iload (C : zC κ own cc nL rt) {i : Nat} {x : Int32} (hdg : decode cc pc = .ok (.iload i, 2)) (j : Nat) (hl : lv[j]? = some (i, .int x)) (hq : pc + 2 = q) (kk : Z κ h q lv (.int x :: st)) : Z κ h pc lv st := by
  subst hq; intro H locs hP hS ls h1; exact lv_iload C.1 C.2.1 hdg (lv_at h1 j hl) (kk H locs hP hS ls h1)
theorem z_lload_n (C : zC κ own cc nL rt) {k : Fin 4} {i : Nat} {x : Int64} (hdg : decode cc pc = .ok (.lload_n k, 1)) (j : Nat) (hl : lv[j]? = some (i, .long x)) (hi : (k : Nat) = i) (hq : pc + 1 = q) (kk : Z κ h q lv (.long x :: st)) : Z κ h pc lv st := by
  subst hq; intro H locs hP hS ls h1; exact lv_lload_n C.1 C.2.1 hdg hi (lv_at h1 j hl) (kk H locs hP hS ls h1)
theorem z_lload (C : zC κ own cc nL rt) {i : Nat} {x : Int64} (hdg : decode cc pc = .ok (.lload i, 2)) (j : Nat) (hl : lv[j]? = some (i, .long x)) (hq : pc + 2 = q) (kk : Z κ h q lv (.long x :: st)) : Z κ h pc lv st := by
  subst hq; intro H locs hP hS ls h1; exact lv_lload C.1 C.2.1 hdg (lv_at h1 j hl) (kk H locs hP hS ls h1)
theorem z_aload_n (C : zC κ own cc nL rt) {k : Fin 4} {i x : Nat} (hdg : decode cc pc = .ok (.aload_n k, 1)) (j : Nat) (hl : lv[j]? = some (i, .ref x)) (hi : (k : Nat) = i) (hq : pc + 1 = q) (kk : Z κ h q lv (.ref x :: st)) : Z κ h pc lv st := by
  subst hq; intro H locs hP hS ls h1; exact lv_aload_n C.1 C.2.1 hdg hi (lv_at h1 j hl) (kk H locs hP hS ls h1)
theorem z_aload (C : zC κ own cc nL rt) {i x : Nat} (hdg : decode cc pc = .ok (.aload i, 2)) (j : Nat) (hl : lv[j]? = some (i, .ref x)) (hq : pc + 2 = q) (kk : Z κ h q lv (.ref x :: st)) : Z κ h pc lv st := by
  subst hq; intro H locs hP hS ls h1; exact lv_aload C.1 C.2.1 hdg (lv_at h1 j hl) (kk H locs hP hS ls h1)
theorem z_istore_n (C : zC κ own cc nL rt) {k : Fin 4} {i : Nat} {x : Int32} (hdg : decode cc pc = .ok (.istore_n k, 1)) (hn : i < nL) (hl : (i, Value.int x) :: lv.filter (fun q => !(q.1 == i) && !(q.1 + 1 == i && q.2.category == 2)) = lv') (hi : (k : Nat) = i) (hq : pc + 1 = q) (kk : Z κ h q lv' st) : Z κ h pc lv (.int x :: st) := by
  subst hq; intro H locs hP hS ls h1; exact lv_istore_n C.1 C.2.1 hdg hi h1 (by rw [C.2.2.1]; exact hn) hl (fun ls h2 => kk H locs hP hS ls h2)
theorem z_istore (C : zC κ own cc nL rt) {i : Nat} {x : Int32} (hdg : decode cc pc = .ok (.istore i, 2)) (hn : i < nL) (hl : (i, Value.int x) :: lv.filter (fun q => !(q.1 == i) && !(q.1 + 1 == i && q.2.category == 2)) = lv') (hq : pc + 2 = q) (kk : Z κ h q lv' st) : Z κ h pc lv (.int x :: st) := by
  subst hq; intro H locs hP hS ls h1; exact lv_istore C.1 C.2.1 hdg h1 (by rw [C.2.2.1]; exact hn) hl (fun ls h2 => kk H locs hP hS ls h2)
theorem z_astore_n (C : zC κ own cc nL rt) {k : Fin 4} {i x : Nat} (hdg : decode cc pc = .ok (.astore_n k, 1)) (hn : i < nL) (hl : (i, Value.ref x) :: lv.filter (fun q => !(q.1 == i) && !(q.1 + 1 == i && q.2.category == 2)) = lv') (hi : (k : Nat) = i) (hq : pc + 1 = q) (kk : Z κ h q lv' st) : Z κ h pc lv (.ref x :: st) := by
  subst hq; intro H locs hP hS ls h1; exact lv_astore_n C.1 C.2.1 hdg hi h1 (by rw [C.2.2.1]; exact hn) hl (fun ls h2 => kk H locs hP hS ls h2)
theorem z_iinc (C : zC κ own cc nL rt) {i j : Nat} {n x : Int} (hdg : decode cc pc = .ok (.iinc i n, 3)) (hk : lv[j]? = some (i, .int (zi x))) (hn : i < nL) (hl : (i, Value.int (zi (x + n))) :: lv.filter (fun q => !(q.1 == i) && !(q.1 + 1 == i && q.2.category == 2)) = lv') (hq : pc + 3 = q) (kk : Z κ h q lv' st) : Z κ h pc lv st := by
  subst hq; intro H locs hP hS ls h1; exact lv_iinc C.1 C.2.1 hdg h1 hk (zi_add x n) (by rw [C.2.2.1]; exact hn) hl (fun ls h2 => kk H locs hP hS ls h2)
theorem z_lstore (C : zC κ own cc nL rt) {i : Nat} {x : Int64} (hdg : decode cc pc = .ok (.lstore i, 2)) (hn : i + 1 < nL) (hl : (i, Value.long x) :: lv.filter (fun q => !(q.1 == i) && (!(q.1 == i + 1) && !(q.1 + 1 == i && q.2.category == 2))) = lv') (hq : pc + 2 = q) (kk : Z κ h q lv' st) : Z κ h pc lv (.long x :: st) := by
  subst hq; intro H locs hP hS ls h1; exact lv_lstore C.1 C.2.1 hdg h1 (by rw [C.2.2.1]; exact hn) hl (fun ls h2 => kk H locs hP hS ls h2)
theorem z_lstore_n (C : zC κ own cc nL rt) {k : Fin 4} {i : Nat} {x : Int64} (hdg : decode cc pc = .ok (.lstore_n k, 1)) (hn : i + 1 < nL) (hl : (i, Value.long x) :: lv.filter (fun q => !(q.1 == i) && (!(q.1 == i + 1) && !(q.1 + 1 == i && q.2.category == 2))) = lv') (hi : (k : Nat) = i) (hq : pc + 1 = q) (kk : Z κ h q lv' st) : Z κ h pc lv (.long x :: st) := by
  subst hq; intro H locs hP hS ls h1; exact lv_lstore_n C.1 C.2.1 hdg hi h1 (by rw [C.2.2.1]; exact hn) hl (fun ls h2 => kk H locs hP hS ls h2)
theorem z_sub (kk : Z κ h pc lv' st) (ks : List Nat) (hp : lv_pick lv ks = lv') : Z κ h pc lv st := by
  intro H locs hP hS ls h1; exact kk H locs hP hS ls (lv_sub h1 ks hp)
theorem z_iadd (C : zC κ own cc nL rt) {a b : Int} (hdg : decode cc pc = .ok (.iadd, 1)) (hq : pc + 1 = q) (k : Z κ h q lv (.int (zi (a + b)) :: st)) : Z κ h pc lv (.int (zi b) :: .int (zi a) :: st) := by
  subst hq; intro H locs hP hS ls hl; exact lv_iadd C.1 C.2.1 hdg (by rw [zi_add]; exact k H locs hP hS ls hl)
theorem z_isub (C : zC κ own cc nL rt) {a b : Int} (hdg : decode cc pc = .ok (.isub, 1)) (hq : pc + 1 = q) (k : Z κ h q lv (.int (zi (a - b)) :: st)) : Z κ h pc lv (.int (zi b) :: .int (zi a) :: st) := by
  subst hq; intro H locs hP hS ls hl; exact lv_isub C.1 C.2.1 hdg (by rw [zi_sub]; exact k H locs hP hS ls hl)
theorem z_imul (C : zC κ own cc nL rt) {a b : Int} (hdg : decode cc pc = .ok (.imul, 1)) (hq : pc + 1 = q) (k : Z κ h q lv (.int (zi (a * b)) :: st)) : Z κ h pc lv (.int (zi b) :: .int (zi a) :: st) := by
  subst hq; intro H locs hP hS ls hl; exact lv_imul C.1 C.2.1 hdg (by rw [zi_mul]; exact k H locs hP hS ls hl)
theorem z_ineg (C : zC κ own cc nL rt) {a : Int} (hdg : decode cc pc = .ok (.ineg, 1)) (hq : pc + 1 = q) (k : Z κ h q lv (.int (zi (-a)) :: st)) : Z κ h pc lv (.int (zi a) :: st) := by
  subst hq; intro H locs hP hS ls hl; exact lv_ineg C.1 C.2.1 hdg (by rw [zi_neg]; exact k H locs hP hS ls hl)
theorem z_iand (C : zC κ own cc nL rt) {a b : Int} (hdg : decode cc pc = .ok (.iand, 1)) (hq : pc + 1 = q) (k : Z κ h q lv (.int (zi (zand a b)) :: st)) : Z κ h pc lv (.int (zi b) :: .int (zi a) :: st) := by
  subst hq; intro H locs hP hS ls hl; exact lv_iand C.1 C.2.1 hdg (by rw [← zi_toInt (zi a &&& zi b)]; exact k H locs hP hS ls hl)
theorem z_ior (C : zC κ own cc nL rt) {a b : Int} (hdg : decode cc pc = .ok (.ior, 1)) (hq : pc + 1 = q) (k : Z κ h q lv (.int (zi (zor a b)) :: st)) : Z κ h pc lv (.int (zi b) :: .int (zi a) :: st) := by
  subst hq; intro H locs hP hS ls hl; exact lv_ior C.1 C.2.1 hdg (by rw [← zi_toInt (zi a ||| zi b)]; exact k H locs hP hS ls hl)
theorem z_ixor (C : zC κ own cc nL rt) {a b : Int} (hdg : decode cc pc = .ok (.ixor, 1)) (hq : pc + 1 = q) (k : Z κ h q lv (.int (zi (zxor a b)) :: st)) : Z κ h pc lv (.int (zi b) :: .int (zi a) :: st) := by
  subst hq; intro H locs hP hS ls hl; exact lv_ixor C.1 C.2.1 hdg (by rw [← zi_toInt (zi a ^^^ zi b)]; exact k H locs hP hS ls hl)
theorem z_ishl (C : zC κ own cc nL rt) {a b : Int} (hdg : decode cc pc = .ok (.ishl, 1)) (hq : pc + 1 = q) (k : Z κ h q lv (.int (zi (zshl a b)) :: st)) : Z κ h pc lv (.int (zi b) :: .int (zi a) :: st) := by
  subst hq; intro H locs hP hS ls hl; exact lv_ishl C.1 C.2.1 hdg (by rw [← zi_toInt (zi a <<< (zi b &&& 31))]; exact k H locs hP hS ls hl)
theorem z_ishr (C : zC κ own cc nL rt) {a b : Int} (hdg : decode cc pc = .ok (.ishr, 1)) (hq : pc + 1 = q) (k : Z κ h q lv (.int (zi (zshr a b)) :: st)) : Z κ h pc lv (.int (zi b) :: .int (zi a) :: st) := by
  subst hq; intro H locs hP hS ls hl; exact lv_ishr C.1 C.2.1 hdg (by rw [← zi_toInt (zi a >>> (zi b &&& 31))]; exact k H locs hP hS ls hl)
theorem z_iushr (C : zC κ own cc nL rt) {a b : Int} (hdg : decode cc pc = .ok (.iushr, 1)) (hq : pc + 1 = q) (k : Z κ h q lv (.int (zi (zushr a b)) :: st)) : Z κ h pc lv (.int (zi b) :: .int (zi a) :: st) := by
  subst hq; intro H locs hP hS ls hl; exact lv_iushr C.1 C.2.1 hdg (zi_toInt _).symm (k H locs hP hS ls hl)
theorem z_nz {b : Int} (h : ¬ zw b = 0) : ¬ zi b = 0 := fun e => h (by unfold zw; rw [e]; rfl)
theorem z_nzl {b : Int} (h : ¬ zwl b = 0) : ¬ zl b = 0 := fun e => h (by unfold zwl; rw [e]; rfl)
theorem z_idiv (C : zC κ own cc nL rt) {a b : Int} (hne : ¬ zw b = 0) (hdg : decode cc pc = .ok (.idiv, 1)) (hq : pc + 1 = q) (k : Z κ h q lv (.int (zi (zdiv a b)) :: st)) : Z κ h pc lv (.int (zi b) :: .int (zi a) :: st) := by
  subst hq; intro H locs hP hS ls hl; exact lv_idiv C.1 C.2.1 hdg (z_nz hne) (by rw [← zi_toInt (zi a / zi b)]; exact k H locs hP hS ls hl)
theorem z_irem (C : zC κ own cc nL rt) {a b : Int} (hne : ¬ zw b = 0) (hdg : decode cc pc = .ok (.irem, 1)) (hq : pc + 1 = q) (k : Z κ h q lv (.int (zi (zrem a b)) :: st)) : Z κ h pc lv (.int (zi b) :: .int (zi a) :: st) := by
  subst hq; intro H locs hP hS ls hl; exact lv_irem C.1 C.2.1 hdg (z_nz hne) (by rw [← zi_toInt (zi a - zi a / zi b * zi b)]; exact k H locs hP hS ls hl)
theorem z_ladd (C : zC κ own cc nL rt) {a b : Int} (hdg : decode cc pc = .ok (.ladd, 1)) (hq : pc + 1 = q) (k : Z κ h q lv (.long (zl (a + b)) :: st)) : Z κ h pc lv (.long (zl b) :: .long (zl a) :: st) := by
  subst hq; intro H locs hP hS ls hl; exact lv_ladd C.1 C.2.1 hdg (by rw [zl_add]; exact k H locs hP hS ls hl)
theorem z_lsub (C : zC κ own cc nL rt) {a b : Int} (hdg : decode cc pc = .ok (.lsub, 1)) (hq : pc + 1 = q) (k : Z κ h q lv (.long (zl (a - b)) :: st)) : Z κ h pc lv (.long (zl b) :: .long (zl a) :: st) := by
  subst hq; intro H locs hP hS ls hl; exact lv_lsub C.1 C.2.1 hdg (by rw [zl_sub]; exact k H locs hP hS ls hl)
theorem z_lmul (C : zC κ own cc nL rt) {a b : Int} (hdg : decode cc pc = .ok (.lmul, 1)) (hq : pc + 1 = q) (k : Z κ h q lv (.long (zl (a * b)) :: st)) : Z κ h pc lv (.long (zl b) :: .long (zl a) :: st) := by
  subst hq; intro H locs hP hS ls hl; exact lv_lmul C.1 C.2.1 hdg (by rw [zl_mul]; exact k H locs hP hS ls hl)
theorem z_ldiv (C : zC κ own cc nL rt) {a b : Int} (hne : ¬ zwl b = 0) (hdg : decode cc pc = .ok (.ldiv, 1)) (hq : pc + 1 = q) (k : Z κ h q lv (.long (zl (zldiv a b)) :: st)) : Z κ h pc lv (.long (zl b) :: .long (zl a) :: st) := by
  subst hq; intro H locs hP hS ls hl; exact lv_ldiv C.1 C.2.1 hdg (z_nzl hne) (by rw [← zl_toInt (zl a / zl b)]; exact k H locs hP hS ls hl)
theorem z_lrem (C : zC κ own cc nL rt) {a b : Int} (hne : ¬ zwl b = 0) (hdg : decode cc pc = .ok (.lrem, 1)) (hq : pc + 1 = q) (k : Z κ h q lv (.long (zl (zlrem a b)) :: st)) : Z κ h pc lv (.long (zl b) :: .long (zl a) :: st) := by
  subst hq; intro H locs hP hS ls hl; exact lv_lrem C.1 C.2.1 hdg (z_nzl hne) (by rw [← zl_toInt (zl a - zl a / zl b * zl b)]; exact k H locs hP hS ls hl)
theorem z_lushr (C : zC κ own cc nL rt) {a b : Int} (hdg : decode cc pc = .ok (.lushr, 1)) (hq : pc + 1 = q) (k : Z κ h q lv (.long (zl (zlushr a b)) :: st)) : Z κ h pc lv (.int (zi b) :: .long (zl a) :: st) := by
  subst hq; intro H locs hP hS ls hl; exact lv_lushr C.1 C.2.1 hdg (zl_toInt _).symm (k H locs hP hS ls hl)
theorem z_i2l (C : zC κ own cc nL rt) {a : Int} (hdg : decode cc pc = .ok (.i2l, 1)) (hq : pc + 1 = q) (k : Z κ h q lv (.long (zl (zw a)) :: st)) : Z κ h pc lv (.int (zi a) :: st) := by
  subst hq; intro H locs hP hS ls hl; exact lv_i2l C.1 C.2.1 hdg rfl (k H locs hP hS ls hl)
theorem z_l2i (C : zC κ own cc nL rt) {a : Int} (hdg : decode cc pc = .ok (.l2i, 1)) (hq : pc + 1 = q) (k : Z κ h q lv (.int (zi (zl2i a)) :: st)) : Z κ h pc lv (.long (zl a) :: st) := by
  subst hq; intro H locs hP hS ls hl; exact lv_l2i C.1 C.2.1 hdg (zi_toInt _).symm (k H locs hP hS ls hl)
theorem z_dup (C : zC κ own cc nL rt) {v : Value} (hdg : decode cc pc = .ok (.dup, 1)) (hc : v.category = 1) (hq : pc + 1 = q) (k : Z κ h q lv (v :: v :: st)) : Z κ h pc lv (v :: st) := by
  subst hq; intro H locs hP hS ls hl; exact lv_dup C.1 C.2.1 hdg hc (k H locs hP hS ls hl)
theorem z_pop (C : zC κ own cc nL rt) {v : Value} (hdg : decode cc pc = .ok (.pop, 1)) (hc : v.category = 1) (hq : pc + 1 = q) (k : Z κ h q lv st) : Z κ h pc lv (v :: st) := by
  subst hq; intro H locs hP hS ls hl; exact lv_pop C.1 C.2.1 hdg hc (k H locs hP hS ls hl)
theorem z_dup_x1 (C : zC κ own cc nL rt) {v w : Value} (hdg : decode cc pc = .ok (.dup_x1, 1)) (hc : v.category = 1) (hd : w.category = 1) (hq : pc + 1 = q) (k : Z κ h q lv (v :: w :: v :: st)) : Z κ h pc lv (v :: w :: st) := by
  subst hq; intro H locs hP hS ls hl; exact lv_dup_x1 C.1 C.2.1 hdg hc hd (k H locs hP hS ls hl)
theorem z_dup2 (C : zC κ own cc nL rt) {v w : Value} (hdg : decode cc pc = .ok (.dup2, 1)) (hc : v.category = 1) (hd : w.category = 1) (hq : pc + 1 = q) (k : Z κ h q lv (v :: w :: v :: w :: st)) : Z κ h pc lv (v :: w :: st) := by
  subst hq; intro H locs hP hS ls hl; exact lv_dup2_11 C.1 C.2.1 hdg hc hd (k H locs hP hS ls hl)
theorem z_goto (C : zC κ own cc nL rt) {off : Int} (hdg : decode cc pc = .ok (.goto off, 3)) (hq : (pc : Int) + off = (q : Int)) (k : Z κ h q lv st) : Z κ h pc lv st := by
  intro H locs hP hS ls hl; exact lv_goto C.1 C.2.1 hdg hq (k H locs hP hS ls hl)
end ZR
section ZR2
variable {κ : zT} {own : String} {cc : ByteArray} {nL : Nat} {rt : Option FieldType} {h : zH} {pc q tgt : Nat} {lv lv' : List (Nat × Value)} {st : List Value} {off : Int}
theorem zi_e0 {a : Int} : zi a = 0 ↔ zw a = 0 := by rw [show (0 : Int32) = zi 0 from rfl, zi_inj, zw_0]
theorem zi_l0 {a : Int} : zi a < 0 ↔ zw a < 0 := by rw [show (0 : Int32) = zi 0 from rfl, zi_lt, zw_0]
theorem zi_0l {a : Int} : 0 < zi a ↔ 0 < zw a := by rw [show (0 : Int32) = zi 0 from rfl, zi_lt, zw_0]
theorem zi_le0 {a : Int} : zi a ≤ 0 ↔ zw a ≤ 0 := by rw [show (0 : Int32) = zi 0 from rfl, zi_le, zw_0]
theorem zi_0le {a : Int} : 0 ≤ zi a ↔ 0 ≤ zw a := by rw [show (0 : Int32) = zi 0 from rfl, zi_le, zw_0]
theorem z_if_eq (C : zC κ own cc nL rt) {a : Int} (hdg : decode cc pc = .ok (.ifCond .eq off, 3)) (ht : (pc : Int) + off = (tgt : Int)) (hq : pc + 3 = q) (kt : zw a = 0 → Z κ h tgt lv st) (kf : ¬ zw a = 0 → Z κ h q lv st) : Z κ h pc lv (.int (zi a) :: st) := by
  subst hq; intro H locs hP hS ls hl; exact lv_if_eq C.1 C.2.1 hdg ht (fun c => kt (zi_e0.mp c) H locs hP hS ls hl) (fun c => kf (fun d => c (zi_e0.mpr d)) H locs hP hS ls hl)
theorem z_if_lt (C : zC κ own cc nL rt) {a : Int} (hdg : decode cc pc = .ok (.ifCond .lt off, 3)) (ht : (pc : Int) + off = (tgt : Int)) (hq : pc + 3 = q) (kt : zw a < 0 → Z κ h tgt lv st) (kf : ¬ zw a < 0 → Z κ h q lv st) : Z κ h pc lv (.int (zi a) :: st) := by
  subst hq; intro H locs hP hS ls hl; exact lv_if_lt C.1 C.2.1 hdg ht (fun c => kt (zi_l0.mp c) H locs hP hS ls hl) (fun c => kf (fun d => c (zi_l0.mpr d)) H locs hP hS ls hl)
theorem z_if_ge (C : zC κ own cc nL rt) {a : Int} (hdg : decode cc pc = .ok (.ifCond .ge off, 3)) (ht : (pc : Int) + off = (tgt : Int)) (hq : pc + 3 = q) (kt : 0 ≤ zw a → Z κ h tgt lv st) (kf : ¬ 0 ≤ zw a → Z κ h q lv st) : Z κ h pc lv (.int (zi a) :: st) := by
  subst hq; intro H locs hP hS ls hl; exact lv_if_ge C.1 C.2.1 hdg ht (fun c => kt (zi_0le.mp c) H locs hP hS ls hl) (fun c => kf (fun d => c (zi_0le.mpr d)) H locs hP hS ls hl)
theorem z_if_gt (C : zC κ own cc nL rt) {a : Int} (hdg : decode cc pc = .ok (.ifCond .gt off, 3)) (ht : (pc : Int) + off = (tgt : Int)) (hq : pc + 3 = q) (kt : 0 < zw a → Z κ h tgt lv st) (kf : ¬ 0 < zw a → Z κ h q lv st) : Z κ h pc lv (.int (zi a) :: st) := by
  subst hq; intro H locs hP hS ls hl; exact lv_if_gt C.1 C.2.1 hdg ht (fun c => kt (zi_0l.mp c) H locs hP hS ls hl) (fun c => kf (fun d => c (zi_0l.mpr d)) H locs hP hS ls hl)
theorem z_if_le (C : zC κ own cc nL rt) {a : Int} (hdg : decode cc pc = .ok (.ifCond .le off, 3)) (ht : (pc : Int) + off = (tgt : Int)) (hq : pc + 3 = q) (kt : zw a ≤ 0 → Z κ h tgt lv st) (kf : ¬ zw a ≤ 0 → Z κ h q lv st) : Z κ h pc lv (.int (zi a) :: st) := by
  subst hq; intro H locs hP hS ls hl; exact lv_if_le C.1 C.2.1 hdg ht (fun c => kt (zi_le0.mp c) H locs hP hS ls hl) (fun c => kf (fun d => c (zi_le0.mpr d)) H locs hP hS ls hl)
theorem z_if_ne (C : zC κ own cc nL rt) {a : Int} (hdg : decode cc pc = .ok (.ifCond .ne off, 3)) (ht : (pc : Int) + off = (tgt : Int)) (hq : pc + 3 = q) (kt : ¬ zw a = 0 → Z κ h tgt lv st) (kf : zw a = 0 → Z κ h q lv st) : Z κ h pc lv (.int (zi a) :: st) := by
  subst hq; intro H locs hP hS ls hl; exact lv_if_ne C.1 C.2.1 hdg ht (fun c => kt (fun d => c (zi_e0.mpr d)) H locs hP hS ls hl) (fun c => kf (zi_e0.mp c) H locs hP hS ls hl)
theorem z_icmp_eq (C : zC κ own cc nL rt) {a b : Int} (hdg : decode cc pc = .ok (.if_icmp .eq off, 3)) (ht : (pc : Int) + off = (tgt : Int)) (hq : pc + 3 = q) (kt : zw a = zw b → Z κ h tgt lv st) (kf : ¬ zw a = zw b → Z κ h q lv st) : Z κ h pc lv (.int (zi b) :: .int (zi a) :: st) := by
  subst hq; intro H locs hP hS ls hl; exact lv_icmp_eq C.1 C.2.1 hdg ht (fun c => kt (zi_inj.mp c) H locs hP hS ls hl) (fun c => kf (fun d => c (zi_inj.mpr d)) H locs hP hS ls hl)
theorem z_icmp_lt (C : zC κ own cc nL rt) {a b : Int} (hdg : decode cc pc = .ok (.if_icmp .lt off, 3)) (ht : (pc : Int) + off = (tgt : Int)) (hq : pc + 3 = q) (kt : zw a < zw b → Z κ h tgt lv st) (kf : ¬ zw a < zw b → Z κ h q lv st) : Z κ h pc lv (.int (zi b) :: .int (zi a) :: st) := by
  subst hq; intro H locs hP hS ls hl; exact lv_icmp_lt C.1 C.2.1 hdg ht (fun c => kt (zi_lt.mp c) H locs hP hS ls hl) (fun c => kf (fun d => c (zi_lt.mpr d)) H locs hP hS ls hl)
theorem z_icmp_ge (C : zC κ own cc nL rt) {a b : Int} (hdg : decode cc pc = .ok (.if_icmp .ge off, 3)) (ht : (pc : Int) + off = (tgt : Int)) (hq : pc + 3 = q) (kt : zw b ≤ zw a → Z κ h tgt lv st) (kf : ¬ zw b ≤ zw a → Z κ h q lv st) : Z κ h pc lv (.int (zi b) :: .int (zi a) :: st) := by
  subst hq; intro H locs hP hS ls hl; exact lv_icmp_ge C.1 C.2.1 hdg ht (fun c => kt (zi_le.mp c) H locs hP hS ls hl) (fun c => kf (fun d => c (zi_le.mpr d)) H locs hP hS ls hl)
theorem z_icmp_gt (C : zC κ own cc nL rt) {a b : Int} (hdg : decode cc pc = .ok (.if_icmp .gt off, 3)) (ht : (pc : Int) + off = (tgt : Int)) (hq : pc + 3 = q) (kt : zw b < zw a → Z κ h tgt lv st) (kf : ¬ zw b < zw a → Z κ h q lv st) : Z κ h pc lv (.int (zi b) :: .int (zi a) :: st) := by
  subst hq; intro H locs hP hS ls hl; exact lv_icmp_gt C.1 C.2.1 hdg ht (fun c => kt (zi_lt.mp c) H locs hP hS ls hl) (fun c => kf (fun d => c (zi_lt.mpr d)) H locs hP hS ls hl)
theorem z_icmp_le (C : zC κ own cc nL rt) {a b : Int} (hdg : decode cc pc = .ok (.if_icmp .le off, 3)) (ht : (pc : Int) + off = (tgt : Int)) (hq : pc + 3 = q) (kt : zw a ≤ zw b → Z κ h tgt lv st) (kf : ¬ zw a ≤ zw b → Z κ h q lv st) : Z κ h pc lv (.int (zi b) :: .int (zi a) :: st) := by
  subst hq; intro H locs hP hS ls hl; exact lv_icmp_le C.1 C.2.1 hdg ht (fun c => kt (zi_le.mp c) H locs hP hS ls hl) (fun c => kf (fun d => c (zi_le.mpr d)) H locs hP hS ls hl)
theorem z_icmp_ne (C : zC κ own cc nL rt) {a b : Int} (hdg : decode cc pc = .ok (.if_icmp .ne off, 3)) (ht : (pc : Int) + off = (tgt : Int)) (hq : pc + 3 = q) (kt : ¬ zw a = zw b → Z κ h tgt lv st) (kf : zw a = zw b → Z κ h q lv st) : Z κ h pc lv (.int (zi b) :: .int (zi a) :: st) := by
  subst hq; intro H locs hP hS ls hl; exact lv_icmp_ne C.1 C.2.1 hdg ht (fun c => kt (fun d => c (zi_inj.mpr d)) H locs hP hS ls hl) (fun c => kf (zi_inj.mp c) H locs hP hS ls hl)
/-! switches: the case that holds, and where it goes -/
theorem z_lookup (C : zC κ own cc nL rt) {dflt : Int} {ps : Array (Int × Int)} {len : Nat} {a : Int} (hdg : decode cc pc = .ok (.lookupswitch dflt ps, len)) (hp : (ps.toList.zip (ps.toList.drop 1)).all (fun (a, next) => a.1 < next.1) = true) (ho : Op.lookupswitch.offset ps.toList dflt (zw a) = off) (ht : (pc : Int) + off = (tgt : Int)) (k : Z κ h tgt lv st) : Z κ h pc lv (.int (zi a) :: st) := by
  intro H locs hP hS ls hl; exact lv_lookup C.1 C.2.1 hdg hp ho ht (k H locs hP hS ls hl)
theorem z_tableOut (C : zC κ own cc nL rt) {dflt lo hi : Int} {offs : Array Int} {len : Nat} {a : Int} (hdg : decode cc pc = .ok (.tableswitch dflt lo hi offs, len)) (hh : zw a < lo ∨ hi < zw a) (ht : (pc : Int) + dflt = (tgt : Int)) (k : Z κ h tgt lv st) : Z κ h pc lv (.int (zi a) :: st) := by
  intro H locs hP hS ls hl; exact lv_tableOut C.1 C.2.1 hdg hh ht (k H locs hP hS ls hl)
theorem z_tableIn (C : zC κ own cc nL rt) {dflt lo hi : Int} {offs : Array Int} {len : Nat} {a : Int} {c : Int} (hc : zw a = c) (hdg : decode cc pc = .ok (.tableswitch dflt lo hi offs, len)) (h1 : ¬ c < lo) (h2 : ¬ hi < c) (ho : offs[(c - lo).toNat]? = some off) (ht : (pc : Int) + off = (tgt : Int)) (k : Z κ h tgt lv st) : Z κ h pc lv (.int (zi a) :: st) := by
  subst hc; intro H locs hP hS ls hl; exact lv_tableIn C.1 C.2.1 hdg h1 h2 ho ht (k H locs hP hS ls hl)
theorem z_osw {x a o d : Int} {r : List (Int × Int)} (hn : ¬ x = a) : Op.lookupswitch.offset ((a, o) :: r) d x = Op.lookupswitch.offset r d x := by
  rw [Op.lookupswitch.offset_cons, if_neg]
  intro e
  exact hn e.symm
theorem z_osw1 {x a o d : Int} {r : List (Int × Int)} (hn : x = a) : Op.lookupswitch.offset ((a, o) :: r) d x = o := by
  rw [Op.lookupswitch.offset_cons, if_pos hn.symm]
/-! fields -/
def zCl (ci : Nat) (Cn : String) (T : u_T) (N : Nat) (ty : Nat → FieldType) : Prop :=
  vwCl[ci]? = some (Cn, T, N) ∧ (∀ w ∈ u_ws Cn T N, w ∈ zTb') ∧ znf ci = N ∧ ci < 100 ∧ (∀ k, k < N → parseFieldDescriptor (T k).2.2.1 = some (ty k)) ∧ ∀ a, a < N → ∀ b, b < N → a ≠ b → (T a).2.1 ≠ (T b).2.1
theorem zent_o {cy : ClassId} {α : Nat → Nat} {n o ci N : Nat} {r : Nat → Int} (hd : zkd o = ci) (hc : ci < 100) (hN : znf ci = N) : zent cy α n o r = .inr (ci, (List.range N).map (zfv α n o r)) := by
  subst hd; subst hN; exact if_pos hc
theorem zent_a {cy : ClassId} {α : Nat → Nat} {n o : Nat} {r : Nat → Int} (hd : zkd o = 100) : zent cy α n o r = .inl (cy, zln o, .inl (fun j => zi (r j))) := by
  unfold zent; rw [if_neg (by rw [hd]; decide)]
theorem zfv_i {α : Nat → Nat} {n o ci k : Nat} {r : Nat → Int} (hd : zkd o = ci) (hk : zfk ci k = 0) : zfv α n o r k = .int (zi (r k)) := by
  subst hd; unfold zfv; rw [hk]; rfl
theorem zfv_r {α : Nat → Nat} {n o ci k t : Nat} {r : Nat → Int} (hd : zkd o = ci) (hk : zfk ci k = 1) (ht : zfr o k = t) : zfv α n o r k = .ref (α t) := by
  subst hd; subst ht; unfold zfv; rw [hk]; rfl
theorem zfv_l {α : Nat → Nat} {n o ci k : Nat} {r : Nat → Int} (hd : zkd o = ci) (hk : zfk ci k = 2) : zfv α n o r k = .long (zl (r k)) := by
  subst hd; unfold zfv; rw [hk]; rfl
theorem z_getf {ci : Nat} {Cn : String} {T : u_T} {N : Nat} {ty : Nat → FieldType} (C : zC κ own cc nL rt) (cl : zCl ci Cn T N ty) {o k idx : Nat} {v : Value} (ho : o < zn κ) (hd : zkd o = ci) (hk : k < N) (hw : Cond.fieldLink own idx Cn (T k).2.1 (T k).2.2.1 ∈ lw_tbl) (hsame : (T k).1 = Cn) (hv : zfv (zα κ) (zn κ) o (h o) k = v) (hdg : decode cc pc = .ok (.getfield idx, 3)) (hq : pc + 3 = q) (kk : Z κ h q lv (v :: st)) : Z κ h pc lv (.ref (zα κ o) :: st) := by
  subst hq
  intro H locs hP hS ls hl
  obtain ⟨c1, c2, c3, c4, c5, c6⟩ := cl
  exact va_get (D := zD κ) (ref := Cn) C.1 C.2.1 C.2.2.2.2.1 c2 C.2.2.2.1 C.2.2.2.2.2.1 hP o (by rw [zws_get ho, zent_o hd c4 c3]) c1 k hk (C.2.2.2.2.1 _ (z_in hw rfl)) (fun x hx => by rw [hsame] at hx; exact hx) (by rw [List.getElem?_map, List.getElem?_range hk]; exact congrArg some hv) hdg (kk H locs hP hS ls hl)
theorem z_getN {ci : Nat} {Cn host : String} {T : u_T} {N : Nat} {ty : Nat → FieldType} (C : zC κ own cc nL rt) (cl : zCl ci Cn T N ty) {o k idx : Nat} {v : Value} (ho : o < zn κ) (hd : zkd o = ci) (hk : k < N) (hw : Cond.fieldLinkNest own idx Cn (T k).2.1 (T k).2.2.1 host ∈ lw_tbl) (hsame : (T k).1 = Cn) (hv : zfv (zα κ) (zn κ) o (h o) k = v) (hdg : decode cc pc = .ok (.getfield idx, 3)) (hq : pc + 3 = q) (kk : Z κ h q lv (v :: st)) : Z κ h pc lv (.ref (zα κ o) :: st) := by
  subst hq
  intro H locs hP hS ls hl
  obtain ⟨c1, c2, c3, c4, c5, c6⟩ := cl
  exact va_getN (D := zD κ) (ref := Cn) C.1 C.2.1 C.2.2.2.2.1 c2 C.2.2.2.1 C.2.2.2.2.2.1 hP o (by rw [zws_get ho, zent_o hd c4 c3]) c1 k hk (va_Nw.use rfl (C.2.2.2.2.2.2.2.2.1.2.2.2.2.2 _ (z_inN hw rfl))) (fun x hx => by rw [hsame] at hx; exact hx) (by rw [List.getElem?_map, List.getElem?_range hk]; exact congrArg some hv) hdg (kk H locs hP hS ls hl)
theorem zflds_set {α : Nat → Nat} {n o N k : Nat} {r : Nat → Int} {x : Int} {v : Value} (hk : k < N) (hv : zfv α n o (fun b => if b = k then x else r b) k = v) : ((List.range N).map (zfv α n o r)).set k v = (List.range N).map (zfv α n o (fun b => if b = k then x else r b)) := by
  subst hv
  apply List.ext_getElem?
  intro i
  rw [List.getElem?_set]
  by_cases hi : k = i
  · subst hi
    rw [if_pos rfl, if_pos (by simp [hk]), List.getElem?_map, List.getElem?_range hk]
    rfl
  · rw [if_neg hi, List.getElem?_map, List.getElem?_map]
    by_cases h2 : i < N
    · rw [List.getElem?_range h2]
      have e : (fun b => if b = k then x else r b) i = r i := if_neg (Ne.symm hi)
      show some (zfv α n o r i) = some (zfv α n o _ i)
      unfold zfv
      rw [e]
    · rw [List.getElem?_eq_none (by simp; omega)]
      rfl
theorem z_putf {ci : Nat} {Cn : String} {T : u_T} {N : Nat} {ty : Nat → FieldType} (C : zC κ own cc nL rt) (cl : zCl ci Cn T N ty) {o k idx : Nat} {v : Value} {x : Int} (ho : o < zn κ) (hd : zkd o = ci) (hk : k < N) (hw : Cond.fieldLink own idx Cn (T k).2.1 (T k).2.2.1 ∈ lw_tbl) (hsame : (T k).1 = Cn) (hfin : (T k).2.2.2 = false) (hn : narrow (ty k) v = v) (hfit : fits (ty k) v = true) (hv : zfv (zα κ) (zn κ) o (fun b => if b = k then x else h o b) k = v) (hdg : decode cc pc = .ok (.putfield idx, 3)) (hq : pc + 3 = q) {g : zH} (eg : g = zs h o k x) (kk : Z κ g q lv st) : Z κ h pc lv (v :: .ref (zα κ o) :: st) := by
  subst hq; subst eg
  intro H locs hP hS ls hl
  obtain ⟨c1, c2, c3, c4, c5, c6⟩ := cl
  refine va_put (D := zD κ) (ref := Cn) C.1 C.2.1 C.2.2.2.2.1 c2 ty c5 c6 C.2.2.2.1 C.2.2.2.2.2.1 hP (zws_D C.2.2.2.2.2.2.1) hS o (by rw [zws_get ho, zent_o hd c4 c3]) c1 k hk (C.2.2.2.2.1 _ (z_in hw rfl)) (fun x hx => by rw [hsame] at hx; exact hx) hfin (c5 k hk) hn hfit (by simp [hk]) hdg (fun H1 locs1 hP1 _ hS1 => ?_)
  rw [zflds_set hk hv, zws_set (j := k) (v := x) ho (zent_o hd c4 c3).symm] at hP1
  exact kk H1 locs1 hP1 hS1 ls hl
/-! arrays -/
theorem z_vpin {i : Int} {n : Nat} (h0 : 0 ≤ zw i) (h1 : zw i < (n : Int)) : vp_in (zi i) n := by
  intro hh
  rcases hh with hh | hh
  · have := zi_l0.mp hh; omega
  · rw [zi_nat] at hh; omega
theorem z_iald (C : zC κ own cc nL rt) {o : Nat} {i : Int} (ho : o < zn κ) (hd : zkd o = 100) (h0 : 0 ≤ zw i) (h1 : zw i < (zln o : Int)) (hdg : decode cc pc = .ok (.iaload, 1)) (hq : pc + 1 = q) (kk : Z κ h q lv (.int (zi (h o (zw i).toNat)) :: st)) : Z κ h pc lv (.int (zi i) :: .ref (zα κ o) :: st) := by
  subst hq
  intro H locs hP hS ls hl
  exact va_iald (D := zD κ) (cl := vwCl) (cA := zcy κ) (n := zln o) (f := fun j => zi (h o j)) C.1 C.2.1 C.2.2.2.2.2.1 hP o 0 (by rw [zws_get ho, zent_a hd]) rfl (z_vpin h0 h1) hdg (kk H locs hP hS ls hl)
theorem z_iast (C : zC κ own cc nL rt) {o : Nat} {i x : Int} (ho : o < zn κ) (hd : zkd o = 100) (h0 : 0 ≤ zw i) (h1 : zw i < (zln o : Int)) (hdg : decode cc pc = .ok (.iastore, 1)) (hq : pc + 1 = q) {g : zH} (eg : g = zs h o (zw i).toNat x) (kk : Z κ g q lv st) : Z κ h pc lv (.int (zi x) :: .int (zi i) :: .ref (zα κ o) :: st) := by
  subst hq; subst eg
  intro H locs hP hS ls hl
  refine va_iast (D := zD κ) (cl := vwCl) C.1 C.2.1 C.2.2.2.2.2.1 hP (zws_D C.2.2.2.2.2.2.1) hS o 0 (by rw [zws_get ho, zent_a hd]) rfl (z_vpin h0 h1) hdg (fun H1 locs1 hP1 _ hS1 => ?_)
  rw [zws_set (j := (zw i).toNat) (v := x) ho] at hP1
  · exact kk H1 locs1 hP1 hS1 ls hl
  · rw [zent_a hd]
    congr 2
    simp only [Sum.inl.injEq, Prod.mk.injEq, true_and]
    funext j
    show upd (fun j => zi (h o j)) (zw i).toNat (zi x) j = zi (if j = (zw i).toNat then x else h o j)
    unfold upd
    by_cases hj : j = (zw i).toNat
    · simp [hj]
    · simp [hj]
theorem z_ialdc (C : zC κ own cc nL rt) {o j : Nat} {i : Int} (ho : o < zn κ) (hd : zkd o = 100) (hj : zw i = (j : Int)) (h1 : j < zln o) (hdg : decode cc pc = .ok (.iaload, 1)) (hq : pc + 1 = q) (kk : Z κ h q lv (.int (zi (h o j)) :: st)) : Z κ h pc lv (.int (zi i) :: .ref (zα κ o) :: st) :=
  z_iald C ho hd (by omega) (by omega) hdg hq (by rw [hj]; exact kk)
theorem z_iastc (C : zC κ own cc nL rt) {o j : Nat} {i x : Int} (ho : o < zn κ) (hd : zkd o = 100) (hj : zw i = (j : Int)) (h1 : j < zln o) (hdg : decode cc pc = .ok (.iastore, 1)) (hq : pc + 1 = q) {g : zH} (eg : g = zs h o j x) (kk : Z κ g q lv st) : Z κ h pc lv (.int (zi x) :: .int (zi i) :: .ref (zα κ o) :: st) :=
  z_iast C ho hd (by omega) (by omega) hdg hq (by rw [hj]; exact eg) kk
theorem z_alen (C : zC κ own cc nL rt) {o : Nat} (ho : o < zn κ) (hd : zkd o = 100) (hdg : decode cc pc = .ok (.arraylength, 1)) (hq : pc + 1 = q) (kk : Z κ h q lv (.int (zi (zln o : Int)) :: st)) : Z κ h pc lv (.ref (zα κ o) :: st) := by
  subst hq
  intro H locs hP hS ls hl
  exact va_alen (D := zD κ) (cl := vwCl) (cA := zcy κ) (x := (zln o, .inl (fun j => zi (h o j)))) (v := zi (zln o : Int)) C.1 C.2.1 C.2.2.2.2.2.1 hP o 0 (by rw [zws_get ho, zent_a hd]) rfl (zi_ofNat _) hdg (kk H locs hP hS ls hl)
end ZR2
/-! answers -/
section ZR3
variable {κ : zT} {own : String} {cc : ByteArray} {nL : Nat} {rt : Option FieldType} {h : zH} {pc q tgt : Nat} {lv lv' : List (Nat × Value)} {st : List Value} {off : Int}
theorem z_iret (C : zC κ own cc nL (some .int)) {v : Int} (e1 : zrv κ = some (.int (zi v))) (e2 : zhf κ = h) (hdg : decode cc pc = .ok (.ireturn, 1)) : Z κ h pc lv [.int (zi v)] := by
  intro H locs hP hS ls hl
  refine W.iret C.1 C.2.1 C.2.2.2.2.2.2.2.2.2.2 (fun t ht hW => ⟨by rw [e1], by rw [ht, e2]; exact hP, hS.F ht⟩) hS.2.2 hdg C.2.2.2.2.2.2.2.2.2.1
theorem z_zret (C : zC κ own cc nL (some .boolean)) {v : Int} (hb : zi v = 0 ∨ zi v = 1) (e1 : zrv κ = some (.int (zi v))) (e2 : zhf κ = h) (hdg : decode cc pc = .ok (.ireturn, 1)) : Z κ h pc lv [.int (zi v)] := by
  intro H locs hP hS ls hl
  refine W.zret C.1 C.2.1 C.2.2.2.2.2.2.2.2.2.2 (by rcases hb with hb | hb <;> rw [hb] <;> rfl) (fun t ht hW => ⟨by rw [e1], by rw [ht, e2]; exact hP, hS.F ht⟩) hS.2.2 hdg C.2.2.2.2.2.2.2.2.2.1
theorem z_lret (C : zC κ own cc nL (some .long)) {v : Int} (e1 : zrv κ = some (.long (zl v))) (e2 : zhf κ = h) (hdg : decode cc pc = .ok (.lreturn, 1)) : Z κ h pc lv [.long (zl v)] := by
  intro H locs hP hS ls hl
  refine W.lret C.1 C.2.1 C.2.2.2.2.2.2.2.2.2.2 (fun t ht hW => ⟨by rw [e1], by rw [ht, e2]; exact hP, hS.F ht⟩) hS.2.2 hdg C.2.2.2.2.2.2.2.2.2.1
theorem z_vret (C : zC κ own cc nL none) (e1 : zrv κ = none) (e2 : zhf κ = h) (hdg : decode cc pc = .ok (.return_, 1)) : Z κ h pc lv [] := by
  intro H locs hP hS ls hl
  refine W.vret C.1 C.2.1 C.2.2.2.2.2.2.2.2.2.2 (fun t ht hW => ⟨by rw [e1], by rw [ht, e2]; exact hP, hS.F ht⟩) hS.2.2 hdg C.2.2.2.2.2.2.2.2.2.1
/-! calls -/

def zYo (y : MethodName) (b : ByteArray) (nl : Nat) (rt : Option FieldType) (k : Nat) : Prop :=
  Cond.code y b nl rt ∈ lw_tbl ∧ Cond.initialized y.cls ∈ lw_tbl ∧ (y.cls ≠ "java/lang/invoke/MethodHandle" ∧ y.cls ≠ "java/lang/invoke/VarHandle" ∧ (parseMethodDescriptor y.desc).map (fun d => d.parameters.length) = some k) ∧ nl ≤ 21
def zYS (y : MethodName) (b : ByteArray) (nl : Nat) (rt : Option FieldType) (k : Nat) : Prop := zYo y b nl rt k ∧ Cond.static y ∈ lw_tbl
def zYV (y : MethodName) (b : ByteArray) (nl : Nat) (rt : Option FieldType) (k : Nat) : Prop := zYo y b nl rt k ∧ Cond.instanceMethod y ∈ lw_tbl ∧ Cond.selects y.cls y y ∈ lw_tbl
theorem z_A1 {H : Heap} {locs : List Loc} (hS : va_S (zAk κ) (zst κ).heap H locs) : ∀ q : Nat, zA (zα κ) (zn κ) H.size q → zAk κ q := by
  intro q hq
  rcases hq with hq | hq
  · exact Or.inl hq
  · exact Or.inr (Nat.le_trans hS.1 hq)
theorem z_pre (C : zC κ own cc nL rt) {H : Heap} {locs : List Loc} {av : List Value} (hP : va_P (zD κ) vwCl (zws (zcy κ) (zα κ) (zn κ) h) H) (hS : va_S (zAk κ) (zst κ).heap H locs) : ∀ U : State, U.heap = H → (zst κ).WarmedH U.vm → zPc (zD κ) (zcy κ) (zα κ) (zn κ) (zσ κ) H.size av h av.toArray U := by
  intro U hU hW
  subst hU
  exact ⟨rfl, rfl, hP, va_K.moved hW.alike C.2.2.2.2.2.1, C.2.2.2.2.2.2.1, C.2.2.2.2.2.2.2.1, ((C.2.2.2.2.2.2.2.2.1.kept (fun a h1 h2 => hS.2.1 a h1 h2)).narrow (z_A1 hS)).warm hW⟩
/-- behind a call -/
theorem z_after {H : Heap} {locs : List Loc} {rv : Option Value} {h' : zH} {st0 rest : List Value} {ls : Array Slot} {a : Array Value} (hS : va_S (zAk κ) (zst κ).heap H locs) (hl : lv_has ls (zc κ).maxLocals lv)
    (hr : va_Run (zp κ) (zla κ) (ze κ) (zR κ) (zst κ) (zm κ) (zar κ) (zbe κ) (zme κ) (zc κ) H locs 0 0 0 0 (F0 (zm κ) pc ls st0) rest (zQc (zD κ) (zcy κ) (zα κ) (zn κ) H.size rv h' a) (zA (zα κ) (zn κ) H.size))
    (k : Z κ h' (pc + 3) lv (rv.toList ++ rest)) : zW κ H locs (F0 (zm κ) pc ls st0) := by
  intro T hT X
  obtain ⟨v, st₀, t, T', L, h0, X', hL, e1, e2, ⟨hv, hP1, hF1⟩, stp⟩ := hr T hT X
  cases hv
  rw [← e1] at hP1
  have hS1 : va_S (zAk κ) (zst κ).heap T'.heap (locs ++ L) := by
    refine ⟨Nat.le_trans hS.1 (by rw [e1, ← h0]; exact hF1.1), fun z g1 g2 => ?_, fun z hz => ?_⟩
    · rw [e1, hF1.2 z (by rw [h0]; exact Nat.lt_of_lt_of_le g1 hS.1) (fun g3 => g2 (z_A1 hS z g3)), h0]
      exact hS.2.1 z g1 g2
    · rcases List.mem_append.mp hz with g | g
      · exact hS.2.2 z g
      · exact z_A1 hS _ (hL z g)
  obtain ⟨t2, a1, b1⟩ := k T'.heap (locs ++ L) hP1 hS1 ls hl T' rfl X'
  exact ⟨t2, stp t2 a1, b1⟩
theorem zrm_fit {d nl : Nat} (hR : zR κ = zrm (d + 1)) (hn : nl ≤ 21) : (zrm d).frames + 1 ≤ (zR κ).frames ∧ 8 + (nl + 11) + (zrm d).locals ≤ (zR κ).locals := by
  rw [hR]
  unfold zrm
  refine ⟨Nat.le_refl _, ?_⟩
  show 8 + (nl + 11) + 40 * d ≤ 40 * (d + 1)
  omega
theorem zR_0 {d : Nat} (hR : zR κ = zrm d) : 0 + 0 ≤ (zR κ).cells ∧ 0 + 0 ≤ (zR κ).slots := by rw [hR]; exact ⟨Nat.le_refl _, Nat.le_refl _⟩
variable {y : MethodName} {b : ByteArray} {nl idx d : Nat} {rt2 : Option FieldType} {av rest stk stk2 : List Value} {rv : Option Value} {h' : zH}
theorem z_callS (C : zC κ own cc nL rt) (hR : zR κ = zrm (d + 1)) (hM : zMet (zla κ) y b nl rt2 (zrm d) (zD κ) (zcy κ) (zα κ) (zn κ) (zσ κ) av h rv h') (hY : zYS y b nl rt2 av.length) (hw : Cond.methodLink own idx y ∈ lw_tbl) (hc : (rest.map fun v => v.category).sum ≤ 8) (hdg : decode cc pc = .ok (.invokestatic idx, 3)) (hs : stk = av.reverse ++ rest) (hq : pc + 3 = q) (hs2 : stk2 = rv.toList ++ rest) (k : Z κ h' q lv stk2) : Z κ h pc lv stk := by
  subst hq; subst hs; subst hs2
  intro H locs hP hS ls hl
  have hts := C.2.2.2.2.1
  obtain ⟨⟨y1, y2, y3, y4⟩, y5⟩ := hY
  exact z_after hS hl (va_runS (own := own) (Ts := zTb') ⟨C.1, C.2.1, C.2.2.1, C.2.2.2.1, hts⟩ (hM H.size) ⟨callB_of _ hts (z_good y1) rfl rfl rfl (hts _ (z_in y2 rfl)) (hts _ (z_in hw rfl)) y3 (zrm_fit hR y4), hts _ (z_in y5 rfl)⟩ ⟨zPc_blind, z_pre C hP hS⟩ rfl rfl (hl.1.trans C.2.2.1) rfl (lv_room hc) hdg (zR_0 hR)) k
theorem z_callSN {host : String} (C : zC κ own cc nL rt) (hR : zR κ = zrm (d + 1)) (hM : zMet (zla κ) y b nl rt2 (zrm d) (zD κ) (zcy κ) (zα κ) (zn κ) (zσ κ) av h rv h') (hY : zYS y b nl rt2 av.length) (hw : Cond.methodLinkNest own idx y host ∈ lw_tbl) (hc : (rest.map fun v => v.category).sum ≤ 8) (hdg : decode cc pc = .ok (.invokestatic idx, 3)) (hs : stk = av.reverse ++ rest) (hq : pc + 3 = q) (hs2 : stk2 = rv.toList ++ rest) (k : Z κ h' q lv stk2) : Z κ h pc lv stk := by
  subst hq; subst hs; subst hs2
  intro H locs hP hS ls hl
  have hts := C.2.2.2.2.1
  obtain ⟨⟨y1, y2, y3, y4⟩, y5⟩ := hY
  exact z_after hS hl (va_runSN (own := own) (Ts := zTb') ⟨C.1, C.2.1, C.2.2.1, C.2.2.2.1, hts⟩ (hM H.size) ⟨va_cnB _ hts (z_good y1) rfl rfl rfl (C.2.2.2.2.2.2.2.2.1.2.2.2.2.2 _ (z_inN hw rfl)) (hts _ (z_in y2 rfl)) y3 (zrm_fit hR y4), hts _ (z_in y5 rfl), trivial⟩ ⟨zPc_blind, z_pre C hP hS⟩ rfl rfl (hl.1.trans C.2.2.1) rfl (lv_room hc) hdg (zR_0 hR)) k
theorem z_recv (C : zC κ own cc nL rt) {o ci : Nat} {Cn : String} {T : u_T} {N : Nat} {ty : Nat → FieldType} (cl : zCl ci Cn T N ty) (ho : o < zn κ) (hd : zkd o = ci) {H : Heap} (hP : va_P (zD κ) vwCl (zws (zcy κ) (zα κ) (zn κ) h) H) : ∃ cellB : Cell, H[zα κ o]? = some cellB ∧ cellB.vm.isStatics = false ∧ (zst κ).vm.findClass Cn = some cellB.cls :=
  va_recv C.2.2.2.2.2.1 hP (ci := ci) (q0 := o) cl.1 (by rw [zws_get ho, zent_o hd cl.2.2.2.1 cl.2.2.1])
theorem z_callV {o ci : Nat} {T : u_T} {N : Nat} {ty : Nat → FieldType} (C : zC κ own cc nL rt) (hR : zR κ = zrm (d + 1)) (cl : zCl ci y.cls T N ty) (ho : o < zn κ) (hd : zkd o = ci) (hM : zMet (zla κ) y b nl rt2 (zrm d) (zD κ) (zcy κ) (zα κ) (zn κ) (zσ κ) (.ref (zα κ o) :: av) h rv h') (hY : zYV y b nl rt2 av.length) (hw : Cond.methodLink own idx y ∈ lw_tbl) (hc : (rest.map fun v => v.category).sum ≤ 8) (hdg : decode cc pc = .ok (.invokevirtual idx, 3)) (hs : stk = av.reverse ++ .ref (zα κ o) :: rest) (hq : pc + 3 = q) (hs2 : stk2 = rv.toList ++ rest) (k : Z κ h' q lv stk2) : Z κ h pc lv stk := by
  subst hq; subst hs; subst hs2
  intro H locs hP hS ls hl
  have hts := C.2.2.2.2.1
  obtain ⟨⟨y1, y2, y3, y4⟩, y5, y6⟩ := hY
  exact z_after hS hl (va_runV (own := own) (Ts := zTb') ⟨C.1, C.2.1, C.2.2.1, C.2.2.2.1, hts⟩ (hM H.size) ⟨callB_of _ hts (z_good y1) rfl rfl rfl (hts _ (z_in y2 rfl)) (hts _ (z_in hw rfl)) y3 (zrm_fit hR y4), hts _ (z_in y5 rfl), hts _ (z_in y6 rfl)⟩ ⟨zPc_blind, z_recv C cl ho hd hP, z_pre C hP hS⟩ rfl rfl (hl.1.trans C.2.2.1) rfl (lv_room hc) hdg (zR_0 hR)) k
theorem z_callVN {o ci : Nat} {host : String} {T : u_T} {N : Nat} {ty : Nat → FieldType} (C : zC κ own cc nL rt) (hR : zR κ = zrm (d + 1)) (cl : zCl ci y.cls T N ty) (ho : o < zn κ) (hd : zkd o = ci) (hM : zMet (zla κ) y b nl rt2 (zrm d) (zD κ) (zcy κ) (zα κ) (zn κ) (zσ κ) (.ref (zα κ o) :: av) h rv h') (hY : zYV y b nl rt2 av.length) (hw : Cond.methodLinkNest own idx y host ∈ lw_tbl) (hc : (rest.map fun v => v.category).sum ≤ 8) (hdg : decode cc pc = .ok (.invokevirtual idx, 3)) (hs : stk = av.reverse ++ .ref (zα κ o) :: rest) (hq : pc + 3 = q) (hs2 : stk2 = rv.toList ++ rest) (k : Z κ h' q lv stk2) : Z κ h pc lv stk := by
  subst hq; subst hs; subst hs2
  intro H locs hP hS ls hl
  have hts := C.2.2.2.2.1
  obtain ⟨⟨y1, y2, y3, y4⟩, y5, y6⟩ := hY
  exact z_after hS hl (va_runVN (own := own) (Ts := zTb') ⟨C.1, C.2.1, C.2.2.1, C.2.2.2.1, hts⟩ (hM H.size) ⟨va_cnB _ hts (z_good y1) rfl rfl rfl (C.2.2.2.2.2.2.2.2.1.2.2.2.2.2 _ (z_inN hw rfl)) (hts _ (z_in y2 rfl)) y3 (zrm_fit hR y4), hts _ (z_in y5 rfl), hts _ (z_in y6 rfl)⟩ ⟨zPc_blind, z_recv C cl ho hd hP, z_pre C hP hS⟩ rfl rfl (hl.1.trans C.2.2.1) rfl (lv_room hc) hdg (zR_0 hR)) k
end ZR3

/-! the rows' small sides -/
theorem zlv {a b d : Nat} (h : b + 1 ≤ d + 1) (e : Nat.ble a b = true) : a ≤ d := Nat.le_trans (Nat.le_of_ble_eq_true e) (Nat.le_of_succ_le_succ h)
theorem zb01 {x : Int} (h : x = 0 ∨ x = 1) : zi x = 0 ∨ zi x = 1 := by
  rcases h with rfl | rfl
  · exact Or.inl rfl
  · exact Or.inr rfl
theorem zbn {x : Int} (h : x = 0 ∨ x = 1) : narrow .boolean (.int (zi x)) = .int (zi x) := by rcases h with rfl | rfl <;> rfl
theorem zbf {x : Int} (h : x = 0 ∨ x = 1) : fits .boolean (.int (zi x)) = true := by rcases h with rfl | rfl <;> rfl
theorem zln_le (o : Nat) : zln o ≤ 6600 := by
  rcases Nat.lt_or_ge o 77 with ho | ho
  · have H : ∀ o, o < 77 → zln o ≤ 6600 := by decide
    exact H o ho
  · unfold zln
    rw [List.getD_eq_getElem?_getD, List.getElem?_eq_none (by simpa using ho)]
    exact Nat.zero_le _
theorem zlnw (o : Nat) : zw (zln o : Int) = zln o := zw_id (by have := zln_le o; omega)
def zlcmp (a b : Int) : Int := (lg_cmp (zl a) (zl b)).toInt
def zcopy (h : zH) (o sp o2 dp n : Nat) : zH := fun a => if a = o2 then (fun j => if dp ≤ j ∧ j < dp + n then h o (sp + (j - dp)) else h o2 j) else h a
theorem zcopy_row {h : zH} {o sp o2 dp n j : Nat} : zcopy h o sp o2 dp n o2 j = if dp ≤ j ∧ j < dp + n then h o (sp + (j - dp)) else h o2 j := by
  unfold zcopy; rw [if_pos rfl]
theorem z_ite {c : Prop} {i1 i2 : Decidable c} (a b : Int) : (@ite _ c i1 (zi a) (zi b)) = zi (@ite _ c i2 a b) := by
  by_cases hc : c
  · rw [if_pos hc, if_pos hc]
  · rw [if_neg hc, if_neg hc]
section ZR5
variable {κ : zT} {own : String} {cc : ByteArray} {nL : Nat} {rt : Option FieldType} {h : zH} {pc q tgt : Nat} {lv lv' : List (Nat × Value)} {st : List Value} {off : Int}
theorem z_lcmp (C : zC κ own cc nL rt) {a b : Int} (hdg : decode cc pc = .ok (.lcmp, 1)) (hq : pc + 1 = q) (k : Z κ h q lv (.int (zi (zlcmp a b)) :: st)) : Z κ h pc lv (.long (zl b) :: .long (zl a) :: st) := by
  subst hq; intro H locs hP hS ls hl; exact W.lcmp C.1 C.2.1 hdg (by rw [← zi_toInt (lg_cmp (zl a) (zl b))]; exact k H locs hP hS ls hl)
theorem z_istoreE_n (C : zC κ own cc nL rt) {k : Fin 4} {i : Nat} {x y : Int} (ey : y = x) (hdg : decode cc pc = .ok (.istore_n k, 1)) (hn : i < nL) (hl : (i, Value.int (zi y)) :: lv.filter (fun q => !(q.1 == i) && !(q.1 + 1 == i && q.2.category == 2)) = lv') (hi : (k : Nat) = i) (hq : pc + 1 = q) (kk : Z κ h q lv' st) : Z κ h pc lv (.int (zi x) :: st) := by
  subst ey; exact z_istore_n C hdg hn hl hi hq kk
theorem z_istoreE (C : zC κ own cc nL rt) {i : Nat} {x y : Int} (ey : y = x) (hdg : decode cc pc = .ok (.istore i, 2)) (hn : i < nL) (hl : (i, Value.int (zi y)) :: lv.filter (fun q => !(q.1 == i) && !(q.1 + 1 == i && q.2.category == 2)) = lv') (hq : pc + 2 = q) (kk : Z κ h q lv' st) : Z κ h pc lv (.int (zi x) :: st) := by
  subst ey; exact z_istore C hdg hn hl hq kk
theorem z_topE {x y : Int} (ey : y = x) (kk : Z κ h pc lv (.int (zi y) :: st)) : Z κ h pc lv (.int (zi x) :: st) := by subst ey; exact kk
theorem z_topL {x y : Int} (ey : y = x) (kk : Z κ h pc lv (.long (zl y) :: st)) : Z κ h pc lv (.long (zl x) :: st) := by subst ey; exact kk
/-! texts and static arrays -/
theorem z_ldcS (C : zC κ own cc nL rt) {idx i : Nat} (hi : i < 4) (h1 : (zTx i).1 = own) (h2 : (zTx i).2.1 = idx) (hdg : decode cc pc = .ok (.ldc idx, 2)) (hq : pc + 2 = q) (k : Z κ h q lv (.ref ((zσ κ).2.1 i) :: st)) : Z κ h pc lv st := by
  subst hq; subst h2
  intro H locs hP hS ls hl
  have hR := C.2.2.2.2.2.2.2.2.1.2.2.2.1 i hi
  rw [h1] at hR
  exact va_ldcS C.1 C.2.1 C.2.2.2.1 hR hdg (k H locs hP hS ls hl)
theorem z_gets (C : zC κ own cc nL rt) {idx i : Nat} (hi : i < 4) (hw : Cond.fieldLink own idx "SunDesk$Hill" (zSn i) "[I" ∈ lw_tbl) (hdg : decode cc pc = .ok (.getstatic idx, 3)) (hq : pc + 3 = q) (k : Z κ h q lv (.ref ((zσ κ).1 i) :: st)) : Z κ h pc lv st := by
  subst hq
  intro H locs hP hS ls hl
  exact va_gets C.1 C.2.1 (C.2.2.2.2.2.2.2.2.1.1 i hi).1 hS C.2.2.2.1 (C.2.2.2.2.1 _ (z_in hw rfl)) (fun _ h => h) hdg (k H locs hP hS ls hl)
/-! System.arraycopy -/
theorem z_nfw : nativeFrameWords "java/lang/System" "arraycopy" 5 + 11 ≤ 32 := by decide +kernel
theorem z_copy (C : zC κ own cc nL rt) {idx o o2 d : Nat} {sp dp n : Int} (hR : zR κ = zrm (d + 1)) (ho : o < zn κ) (hd : zkd o = 100) (ho2 : o2 < zn κ) (hd2 : zkd o2 = 100) (h1 : 0 ≤ zw sp) (h2 : 0 ≤ zw dp) (h3 : 0 ≤ zw n) (h4 : zw sp + zw n ≤ (zln o : Int)) (h5 : zw dp + zw n ≤ (zln o2 : Int)) (hw : Cond.methodLink own idx arraycopyName ∈ lw_tbl) (hc : (st.map fun v => v.category).sum ≤ 8) (hdg : decode cc pc = .ok (.invokestatic idx, 3)) (hq : pc + 3 = q) {g : zH} (eg : g = zcopy h o (zw sp).toNat o2 (zw dp).toNat (zw n).toNat) (kk : Z κ g q lv st) : Z κ h pc lv (.int (zi n) :: .int (zi dp) :: .ref (zα κ o2) :: .int (zi sp) :: .ref (zα κ o) :: st) := by
  subst hq; subst eg
  intro H locs hP hS ls hl
  have hts := C.2.2.2.2.1
  refine va_copyi (D := zD κ) (cl := vwCl) (tys := [(zcy κ, .int)]) (n0 := zln o) (n1 := zln o2) (f := fun j => zi (h o j)) (g := fun j => zi (h o2 j)) (c0 := zcy κ) (c1 := zcy κ) (ty := .int) C.1 C.2.1 hl.1.symm C.2.2.2.1 (hts _ (z_in hw rfl)) (hts _ (z_in q_592 rfl)) (hts _ (z_in q_591 rfl)) (hts _ (z_in q_19 rfl)) C.2.2.2.2.2.1 hP (zws_D C.2.2.2.2.2.2.1) hS o o2 0 0 (by rw [zws_get ho, zent_a hd]) (by rw [zws_get ho2, zent_a hd2]) rfl rfl rfl (fun e => absurd (zi_l0.mp e) (by omega)) (fun e => absurd (zi_l0.mp e) (by omega)) (fun e => absurd (zi_l0.mp e) (by omega)) (by rw [zi_nat, zi_nat]; omega) (by rw [zi_nat, zi_nat]; omega) (fun _ _ => rfl) (by rw [hR]; exact Nat.succ_le_succ (Nat.zero_le _)) (by rw [hR]; show _ + _ ≤ 40 * (d + 1); exact Nat.le_trans (Nat.add_le_add hc z_nfw) (by omega)) hdg (fun H1 locs1 hP1 _ hS1 => ?_)
  have e : (zws (zcy κ) (zα κ) (zn κ) h).set o2 (zα κ o2, .inl (zcy κ, zln o2, .inl (va_cpy (fun j => zi (h o j)) (fun j => zi (h o2 j)) (zi sp).toNatClampNeg (zi dp).toNatClampNeg (zi n).toNatClampNeg))) = zws (zcy κ) (zα κ) (zn κ) (zcopy h o (zw sp).toNat o2 (zw dp).toNat (zw n).toNat) := by
    apply List.ext_getElem?
    intro i
    rw [List.getElem?_set]
    by_cases hi : o2 = i
    · subst hi
      rw [if_pos rfl, if_pos (by simp [zws, ho2]), zws_get ho2, zent_a hd2]
      congr 3
      simp only [Sum.inl.injEq, Prod.mk.injEq, true_and]
      funext j
      rw [zcopy_row]
      exact z_ite _ _
    · rw [if_neg hi]
      by_cases h2 : i < zn κ
      · rw [zws_get h2, zws_get h2]
        unfold zcopy
        rw [if_neg (Ne.symm hi)]
      · rw [List.getElem?_eq_none (by simp [zws]; omega), List.getElem?_eq_none (by simp [zws]; omega)]
  rw [e] at hP1
  exact kk H1 locs1 hP1 hS1 ls hl
end ZR5
