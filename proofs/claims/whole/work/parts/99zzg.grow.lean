/-! rows that rest: the array is made -/
abbrev Yw (υ : zU) (α : Nat → Nat) (nn kc ns : Nat) (h : zH) (pc : Nat) (lv : List (Nat × Value)) (st : List Value) : Prop := zY υ (zws (ycy υ) α nn h ++ []) kc ns pc lv st
def wC (υ : zU) (own : String) (cc : ByteArray) (nL : Nat) (rt : Option FieldType) (d : Nat) (nn kc ns : Nat) (σ : zSg) : Prop := yV υ own cc nL rt ∧ zG σ (yA υ) (ys υ) (ys υ).heap ∧ (zN ≤ nn ∧ nn ≤ zN + 1) ∧ (d + 1 ≤ (yR υ).frames ∧ 40 * d + 40 ≤ (yR υ).locals) ∧ (kc ≤ (yR υ).cells ∧ ns ≤ (yR υ).slots)
section WR
variable {υ : zU} {own : String} {cc : ByteArray} {nL : Nat} {rt : Option FieldType} {d nn kc ns pc q tgt : Nat} {α : Nat → Nat} {σ : zSg} {h h' : zH} {lv lv' : List (Nat × Value)} {st rest stk stk2 : List Value} {off : Int}
theorem w_iconst (C : wC υ own cc nL rt d nn kc ns σ) {i : Int} (hdg : decode cc pc = .ok (.iconst i, 1)) (hq : pc + 1 = q) (kk : Yw υ α nn kc ns h q lv (.int (zi i) :: st)) : Yw υ α nn kc ns h pc lv st := y_iconst C.1 hdg rfl hq kk
theorem w_aload_n (C : wC υ own cc nL rt d nn kc ns σ) {i : Fin 4} {j x : Nat} (hdg : decode cc pc = .ok (.aload_n i, 1)) (p : Nat) (hl : lv[p]? = some (j, .ref x)) (hi : (i : Nat) = j) (hq : pc + 1 = q) (kk : Yw υ α nn kc ns h q lv (.ref x :: st)) : Yw υ α nn kc ns h pc lv st := y_aload_n C.1 hdg p hl hi hq kk
theorem w_iload_n (C : wC υ own cc nL rt d nn kc ns σ) {i : Fin 4} {j : Nat} {x : Int32} (hdg : decode cc pc = .ok (.iload_n i, 1)) (p : Nat) (hl : lv[p]? = some (j, .int x)) (hi : (i : Nat) = j) (hq : pc + 1 = q) (kk : Yw υ α nn kc ns h q lv (.int x :: st)) : Yw υ α nn kc ns h pc lv st := y_iload_n C.1 hdg p hl hi hq kk
theorem w_iload (C : wC υ own cc nL rt d nn kc ns σ) {j : Nat} {x : Int32} (hdg : decode cc pc = .ok (.iload j, 2)) (p : Nat) (hl : lv[p]? = some (j, .int x)) (hq : pc + 2 = q) (kk : Yw υ α nn kc ns h q lv (.int x :: st)) : Yw υ α nn kc ns h pc lv st := y_iload C.1 hdg p hl hq kk
theorem w_istore (C : wC υ own cc nL rt d nn kc ns σ) {i : Nat} {x : Int32} (hdg : decode cc pc = .ok (.istore i, 2)) (hi : i < nL) (hl0 : (i, Value.int x) :: lv.filter (fun q => !(q.1 == i) && !(q.1 + 1 == i && q.2.category == 2)) = lv') (hq : pc + 2 = q) (kk : Yw υ α nn kc ns h q lv' st) : Yw υ α nn kc ns h pc lv (.int x :: st) := y_istore C.1 hdg hi hl0 hq kk
theorem w_istore_n (C : wC υ own cc nL rt d nn kc ns σ) {k : Fin 4} {i : Nat} {x : Int32} (hdg : decode cc pc = .ok (.istore_n k, 1)) (hn : i < nL) (hl : (i, Value.int x) :: lv.filter (fun q => !(q.1 == i) && !(q.1 + 1 == i && q.2.category == 2)) = lv') (hi : (k : Nat) = i) (hq : pc + 1 = q) (kk : Yw υ α nn kc ns h q lv' st) : Yw υ α nn kc ns h pc lv (.int x :: st) := by
  subst hq; intro H locs hP hD hS ls h1; exact lv_istore_n C.1.1 C.1.2.1 hdg hi h1 (by rw [C.1.2.2.1]; exact hn) hl (fun ls h2 => kk H locs hP hD hS ls h2)
theorem w_istoreE_n (C : wC υ own cc nL rt d nn kc ns σ) {k : Fin 4} {i : Nat} {x y : Int} (ey : y = x) (hdg : decode cc pc = .ok (.istore_n k, 1)) (hn : i < nL) (hl : (i, Value.int (zi y)) :: lv.filter (fun q => !(q.1 == i) && !(q.1 + 1 == i && q.2.category == 2)) = lv') (hi : (k : Nat) = i) (hq : pc + 1 = q) (kk : Yw υ α nn kc ns h q lv' st) : Yw υ α nn kc ns h pc lv (.int (zi x) :: st) := by
  subst ey; exact w_istore_n C hdg hn hl hi hq kk
theorem w_iinc (C : wC υ own cc nL rt d nn kc ns σ) {i j : Nat} {x c : Int} (hdg : decode cc pc = .ok (.iinc i c, 3)) (hk : lv[j]? = some (i, .int (zi x))) (hi : i < nL) (hl0 : (i, Value.int (zi (x + c))) :: lv.filter (fun q => !(q.1 == i) && !(q.1 + 1 == i && q.2.category == 2)) = lv') (hq : pc + 3 = q) (kk : Yw υ α nn kc ns h q lv' st) : Yw υ α nn kc ns h pc lv st := y_iinc C.1 hdg hk hi hl0 hq kk
theorem w_goto (C : wC υ own cc nL rt d nn kc ns σ) (hdg : decode cc pc = .ok (.goto off, 3)) (hq : (pc : Int) + off = (q : Int)) (kk : Yw υ α nn kc ns h q lv st) : Yw υ α nn kc ns h pc lv st := y_goto C.1 hdg hq kk
theorem w_sub (kk : Yw υ α nn kc ns h pc lv' st) (ks : List Nat) (hp : lv_pick lv ks = lv') : Yw υ α nn kc ns h pc lv st := y_sub kk ks hp
theorem w_iadd (C : wC υ own cc nL rt d nn kc ns σ) {a c : Int} (hdg : decode cc pc = .ok (.iadd, 1)) (hq : pc + 1 = q) (kk : Yw υ α nn kc ns h q lv (.int (zi (a + c)) :: st)) : Yw υ α nn kc ns h pc lv (.int (zi c) :: .int (zi a) :: st) := y_iadd C.1 hdg hq kk
theorem w_imul (C : wC υ own cc nL rt d nn kc ns σ) {a c : Int} (hdg : decode cc pc = .ok (.imul, 1)) (hq : pc + 1 = q) (kk : Yw υ α nn kc ns h q lv (.int (zi (a * c)) :: st)) : Yw υ α nn kc ns h pc lv (.int (zi c) :: .int (zi a) :: st) := by
  subst hq; intro H locs hP hD hS ls hl; exact lv_imul C.1.1 C.1.2.1 hdg (by rw [zi_mul]; exact kk H locs hP hD hS ls hl)
theorem w_dup (C : wC υ own cc nL rt d nn kc ns σ) {v : Value} (hdg : decode cc pc = .ok (.dup, 1)) (hc : v.category = 1) (hq : pc + 1 = q) (kk : Yw υ α nn kc ns h q lv (v :: v :: st)) : Yw υ α nn kc ns h pc lv (v :: st) := y_dup C.1 hdg hc hq kk
theorem w_if_eq (C : wC υ own cc nL rt d nn kc ns σ) {a : Int} (hdg : decode cc pc = .ok (.ifCond .eq off, 3)) (ht : (pc : Int) + off = (tgt : Int)) (hq : pc + 3 = q) (kt : zw a = 0 → Yw υ α nn kc ns h tgt lv st) (kf : ¬ zw a = 0 → Yw υ α nn kc ns h q lv st) : Yw υ α nn kc ns h pc lv (.int (zi a) :: st) := by
  subst hq; intro H locs hP hD hS ls hl; exact lv_if_eq C.1.1 C.1.2.1 hdg ht (fun c => kt (zi_e0.mp c) H locs hP hD hS ls hl) (fun c => kf (fun d => c (zi_e0.mpr d)) H locs hP hD hS ls hl)
theorem w_if_ne (C : wC υ own cc nL rt d nn kc ns σ) {a : Int} (hdg : decode cc pc = .ok (.ifCond .ne off, 3)) (ht : (pc : Int) + off = (tgt : Int)) (hq : pc + 3 = q) (kt : ¬ zw a = 0 → Yw υ α nn kc ns h tgt lv st) (kf : zw a = 0 → Yw υ α nn kc ns h q lv st) : Yw υ α nn kc ns h pc lv (.int (zi a) :: st) := by
  subst hq; intro H locs hP hD hS ls hl; exact lv_if_ne C.1.1 C.1.2.1 hdg ht (fun c => kt (fun d => c (zi_e0.mpr d)) H locs hP hD hS ls hl) (fun c => kf (zi_e0.mp c) H locs hP hD hS ls hl)
theorem w_icmp_ge (C : wC υ own cc nL rt d nn kc ns σ) {a b : Int} (hdg : decode cc pc = .ok (.if_icmp .ge off, 3)) (ht : (pc : Int) + off = (tgt : Int)) (hq : pc + 3 = q) (kt : zw b ≤ zw a → Yw υ α nn kc ns h tgt lv st) (kf : ¬ zw b ≤ zw a → Yw υ α nn kc ns h q lv st) : Yw υ α nn kc ns h pc lv (.int (zi b) :: .int (zi a) :: st) := by
  subst hq; intro H locs hP hD hS ls hl; exact lv_icmp_ge C.1.1 C.1.2.1 hdg ht (fun c => kt (zi_le.mp c) H locs hP hD hS ls hl) (fun c => kf (fun d => c (zi_le.mpr d)) H locs hP hD hS ls hl)
theorem w_icmp_le (C : wC υ own cc nL rt d nn kc ns σ) {a b : Int} (hdg : decode cc pc = .ok (.if_icmp .le off, 3)) (ht : (pc : Int) + off = (tgt : Int)) (hq : pc + 3 = q) (kt : zw a ≤ zw b → Yw υ α nn kc ns h tgt lv st) (kf : ¬ zw a ≤ zw b → Yw υ α nn kc ns h q lv st) : Yw υ α nn kc ns h pc lv (.int (zi b) :: .int (zi a) :: st) := by
  subst hq; intro H locs hP hD hS ls hl; exact lv_icmp_le C.1.1 C.1.2.1 hdg ht (fun c => kt (zi_le.mp c) H locs hP hD hS ls hl) (fun c => kf (fun d => c (zi_le.mpr d)) H locs hP hD hS ls hl)
theorem w_icmp_ne (C : wC υ own cc nL rt d nn kc ns σ) {a b : Int} (hdg : decode cc pc = .ok (.if_icmp .ne off, 3)) (ht : (pc : Int) + off = (tgt : Int)) (hq : pc + 3 = q) (kt : ¬ zw a = zw b → Yw υ α nn kc ns h tgt lv st) (kf : zw a = zw b → Yw υ α nn kc ns h q lv st) : Yw υ α nn kc ns h pc lv (.int (zi b) :: .int (zi a) :: st) := by
  subst hq; intro H locs hP hD hS ls hl; exact lv_icmp_ne C.1.1 C.1.2.1 hdg ht (fun c => kt (fun d => c (zi_inj.mpr d)) H locs hP hD hS ls hl) (fun c => kf (zi_inj.mp c) H locs hP hD hS ls hl)
theorem w_getf {ci : Nat} {Cn : String} {T : u_T} {N : Nat} {ty : Nat → FieldType} (C : wC υ own cc nL rt d nn kc ns σ) (cl : zCl ci Cn T N ty) {o k idx : Nat} {v : Value} (ho : o < zN) (hd : zkd o = ci) (hk : k < N) (hw : Cond.fieldLink own idx Cn (T k).2.1 (T k).2.2.1 ∈ lw_tbl) (hsame : (T k).1 = Cn) (hv : zfv α nn o (h o) k = v) (hdg : decode cc pc = .ok (.getfield idx, 3)) (hq : pc + 3 = q) (kk : Yw υ α nn kc ns h q lv (v :: st)) : Yw υ α nn kc ns h pc lv (.ref (α o) :: st) := by
  subst hq
  intro H locs hP hD hS ls hl
  obtain ⟨c1, c2, c3, c4, c5, c6⟩ := cl
  have ho' : o < nn := Nat.lt_of_lt_of_le ho C.2.2.1.1
  exact va_get (D := yD υ) (ref := Cn) C.1.1 C.1.2.1 C.1.2.2.2.2.1 c2 C.1.2.2.2.1 C.1.2.2.2.2.2.1 hP o (by rw [List.append_nil, zws_get ho', zent_o hd c4 c3]) c1 k hk (C.1.2.2.2.2.1 _ (z_in hw rfl)) (fun x hx => by rw [hsame] at hx; exact hx) (by rw [List.getElem?_map, List.getElem?_range hk]; exact congrArg some hv) hdg (kk H locs hP hD hS ls hl)
theorem w_putf {ci : Nat} {Cn : String} {T : u_T} {N : Nat} {ty : Nat → FieldType} (C : wC υ own cc nL rt d nn kc ns σ) (cl : zCl ci Cn T N ty) {o k idx : Nat} {v : Value} {x : Int} (ho : o < zN) (hd : zkd o = ci) (hk : k < N) (hw : Cond.fieldLink own idx Cn (T k).2.1 (T k).2.2.1 ∈ lw_tbl) (hsame : (T k).1 = Cn) (hfin : (T k).2.2.2 = false) (hn : narrow (ty k) v = v) (hfit : fits (ty k) v = true) (hv : zfv α nn o (fun b => if b = k then x else h o b) k = v) (hdg : decode cc pc = .ok (.putfield idx, 3)) (hq : pc + 3 = q) {g : zH} (eg : g = zs h o k x) (kk : Yw υ α nn kc ns g q lv st) : Yw υ α nn kc ns h pc lv (v :: .ref (α o) :: st) := by
  subst hq; subst eg
  intro H locs hP hD hS ls hl
  obtain ⟨c1, c2, c3, c4, c5, c6⟩ := cl
  have ho' : o < nn := Nat.lt_of_lt_of_le ho C.2.2.1.1
  rw [List.append_nil] at hP hD
  refine va_put (D := yD υ) (ref := Cn) C.1.1 C.1.2.1 C.1.2.2.2.2.1 c2 ty c5 c6 C.1.2.2.2.1 C.1.2.2.2.2.2.1 hP hD hS o (by rw [zws_get ho', zent_o hd c4 c3]) c1 k hk (C.1.2.2.2.2.1 _ (z_in hw rfl)) (fun x hx => by rw [hsame] at hx; exact hx) hfin (c5 k hk) hn hfit (by simp [hk]) hdg (fun H1 locs1 hP1 hD1 hS1 => ?_)
  rw [zflds_set hk hv, zws_set (j := k) (v := x) ho' (zent_o hd c4 c3).symm] at hP1 hD1
  exact kk H1 locs1 (by rw [List.append_nil]; exact hP1) (by rw [List.append_nil]; exact hD1) hS1 ls hl
variable {y : MethodName} {b : ByteArray} {nl idx : Nat} {rt2 : Option FieldType} {av : List Value} {rv : Option Value}
theorem w_callV {o ci : Nat} {T : u_T} {N : Nat} {ty : Nat → FieldType} (C : wC υ own cc nL rt d nn kc ns σ) (cl : zCl ci y.cls T N ty) (ho : o < zN) (hd : zkd o = ci) (hM : zMet (yl υ) y b nl rt2 (zrm d) (yD υ) (ycy υ) α nn σ (.ref (α o) :: av) h rv h') (hY : zYV y b nl rt2 av.length) (hw : Cond.methodLink own idx y ∈ lw_tbl) (hc : (rest.map fun v => v.category).sum ≤ 8) (hdg : decode cc pc = .ok (.invokevirtual idx, 3)) (hs : stk = av.reverse ++ .ref (α o) :: rest) (hq : pc + 3 = q) (hs2 : stk2 = rv.toList ++ rest) (kk : Yw υ α nn kc ns h' q lv stk2) : Yw υ α nn kc ns h pc lv stk :=
  y_callV C.1 C.2.1 C.2.2.1 cl ho hd hM hY C.2.2.2.1 C.2.2.2.2 hw hc hdg hs hq hs2 kk
end WR
section WS
variable {υ : zU} {own : String} {cc : ByteArray} {nL : Nat} {rt : Option FieldType} {d nn kc ns pc q tgt : Nat} {α : Nat → Nat} {σ : zSg} {h h' : zH} {lv lv' : List (Nat × Value)} {st rest stk stk2 : List Value} {off : Int}
variable {y : MethodName} {b : ByteArray} {nl idx : Nat} {rt2 : Option FieldType} {av : List Value} {rv : Option Value}
theorem w_callSN {host : String} (C : wC υ own cc nL rt d nn kc ns σ) (hM : zMet (yl υ) y b nl rt2 (zrm d) (yD υ) (ycy υ) α nn σ av h rv h') (hY : zYS y b nl rt2 av.length) (hw : Cond.methodLinkNest own idx y host ∈ lw_tbl) (hc : (rest.map fun v => v.category).sum ≤ 8) (hdg : decode cc pc = .ok (.invokestatic idx, 3)) (hs : stk = av.reverse ++ rest) (hq : pc + 3 = q) (hs2 : stk2 = rv.toList ++ rest) (kk : Yw υ α nn kc ns h' q lv stk2) : Yw υ α nn kc ns h pc lv stk := by
  subst hq; subst hs; subst hs2
  obtain ⟨C1, hG, hn, hR, hk⟩ := C
  intro H locs hP hD hS ls hl
  have hts := C1.2.2.2.2.1
  obtain ⟨⟨y1, y2, y3, y4⟩, y5⟩ := hY
  have hr := va_runSN (own := own) (cells := kc) (slots := ns) (locs := locs) (Ts := zTb') (p := yp υ) (e := ye υ) (below := ybe υ) (meth := yme υ) (g := F0 (ym υ) pc ls (av.reverse ++ rest)) ⟨C1.1, C1.2.1, C1.2.2.1, C1.2.2.2.1, hts⟩ (hM H.size) ⟨va_cnB _ hts (z_good y1) rfl rfl rfl (C1.2.2.2.2.2.2.2.2.2 _ (z_inN hw rfl)) (hts _ (z_in y2 rfl)) y3 ⟨hR.1, by show 8 + (nl + 11) + 40 * d ≤ _; omega⟩, hts _ (z_in y5 rfl), trivial⟩ ⟨zPc_blind, yz_pre C1 hG hn hP hD hS⟩ rfl rfl (hl.1.trans C1.2.2.1) rfl (lv_room hc) hdg hk
  intro T0 hT X
  obtain ⟨v, st₀, t, T', L, h0, X', hL, e1, e2, ⟨hv, hP1, hF1⟩, stp⟩ := hr T0 hT X
  cases hv
  rw [← e1] at hP1
  have hA1 := yz_A1 C1 hD hS
  have hkeep : ∀ x : Nat, x < H.size → ¬ zA α nn H.size x → T'.heap[x]? = H[x]? := fun x g1 g2 => by rw [e1, hF1.2 x (by rw [h0]; exact g1) g2, h0]
  have hS1 : va_S (yA υ) (ys υ).heap T'.heap (locs ++ L) := by
    refine ⟨Nat.le_trans hS.1 (by rw [e1, ← h0]; exact hF1.1), fun x g1 g2 => ?_, fun x hx => ?_⟩
    · rw [hkeep x (Nat.lt_of_lt_of_le g1 hS.1) (fun g3 => g2 (hA1 x g3))]
      exact hS.2.1 x g1 g2
    · rcases List.mem_append.mp hx with g | g
      · exact hS.2.2 x g
      · exact hA1 _ (hL x g)
  have hP2 : va_P (yD υ) vwCl (zws (ycy υ) α nn h' ++ []) T'.heap := by rw [List.append_nil]; exact hP1
  have hD2 : va_D (yA υ) (zws (ycy υ) α nn h' ++ []) := vaD_map hD (by rw [List.map_append, List.map_append, zws_fst, zws_fst])
  obtain ⟨t2, a1, b1⟩ := kk T'.heap (locs ++ L) hP2 hD2 hS1 ls hl T' rfl X'
  exact ⟨t2, stp t2 a1, b1⟩
end WS
/-- a method that may make the array: its world comes out with n' cells -/
def gQc (D : va_G) (cy : ClassId) (α : Nat → Nat) (n sz : Nat) (rv : Option Value) (n' : Nat) (h : zH) : Array Value → State → Outcome → State → Prop := fun _ st o t =>
  o = .returned rv ∧ (∃ α' : Nat → Nat, (∀ i, i < n → α' i = α i) ∧ va_P D vwCl (zws cy α' n' h) t.heap ∧ va_D (zA α n sz) (zws cy α' n' h)) ∧ va_F (zA α n sz) st t
def grm (d : Nat) : Room := { frames := d, cells := 1, slots := 3125, locals := 40 * d }
def gMet (l : Launch) (y : MethodName) (b : ByteArray) (nl : Nat) (rt : Option FieldType) (d : Nat) (D : va_G) (cy : ClassId) (α : Nat → Nat) (n : Nat) (σ : zSg) (av : List Value) (h : zH) (rv : Option Value) (n' : Nat) (h' : zH) : Prop :=
  ∀ sz, Met l y (Cond.code y b nl rt :: zTb') (grm d) (zPc D cy α n σ sz av h) (gQc D cy α n sz rv n' h') 1 3125 (zA α n sz)
theorem g_met {l : Launch} {y : MethodName} {b : ByteArray} {nl d : Nat} {D : va_G} {cy : ClassId} {α : Nat → Nat} {n : Nat} {σ : zSg} {av : List Value} {h : zH} {r : Int} {n' : Nat} {h' : zH} (hy : plainFor y = true) (hlen : (lg_sl av).length ≤ nl)
    (body : ∀ υ : zU, yl υ = l → yR υ = grm d → yD υ = D → ycy υ = cy → yV υ y.cls b nl (some .int) → zG σ (yA υ) (ys υ) (ys υ).heap → (zN ≤ n ∧ n ≤ zN + 1) →
      (∀ (α' : Nat → Nat) (pc : Nat) (lv : List (Nat × Value)), (∀ i, i < n → α' i = α i) → decode b pc = .ok (.ireturn, 1) → Yw υ α' n' 1 3125 h' pc lv [.int (zi r)]) → Yw υ α n 0 0 h 0 (lv_args 0 av) []) : gMet l y b nl (some .int) d D cy α n σ av h (some (.int (zi r))) n' h' := by
  intro sz
  refine zofW (cc := b) (maxL := nl) (ret := some .int) hy rfl ?_
  intro p e s m args below meth c s₁ B hml hv
  obtain ⟨rfl, rfl, hP, hK, hJ, hn, hG⟩ := hv
  have hts := atoms_spec (ws := Cond.code y b nl (some .int) :: zTb') B.pre
  have hown : s.vm.findClass y.cls = some m.cls := findClass_of_methodNamed B.named
  have C : yV (p, l, e, grm d, s, m, av.toArray, below, meth, c, D, cy, zA α n s.heap.size, MQ below (gQc D cy α n s.heap.size (some (.int (zi r))) n' h') av.toArray s 1 3125 (zA α n s.heap.size)) y.cls b nl (some .int) :=
    ⟨B.exec, B.bytes, hml, hown, fun w hw => hts w (List.mem_cons_of_mem _ hw), hK, fun q h => Or.inr h, B.notSynchronized, B.returns, hG.2.2.2.2.2⟩
  have hZ := body (p, l, e, grm d, s, m, av.toArray, below, meth, c, D, cy, zA α n s.heap.size, MQ below (gQc D cy α n s.heap.size (some (.int (zi r))) n' h') av.toArray s 1 3125 (zA α n s.heap.size)) rfl rfl rfl rfl C hG hn (fun α' pc lv hα hdg H locs hP1 hD1 hS1 ls hl => ?_)
  · have hl := lv_entry av (n := nl) hlen
    rw [lg_entry_eq]
    refine hZ s.heap [] (by rw [List.append_nil]; exact hP) (by rw [List.append_nil]; exact zws_D hJ) va_S.rf _ ?_
    show lv_has _ c.maxLocals _
    rw [hml]
    exact hl
  · rw [List.append_nil] at hP1 hD1
    exact W.iret B.exec B.bytes B.returns (fun t ht hW => ⟨rfl, ⟨α', hα, by rw [ht]; exact hP1, hD1⟩, hS1.F ht⟩) hS1.2.2 hdg B.notSynchronized
section WG
variable {υ : zU} {own : String} {cc : ByteArray} {nL : Nat} {rt : Option FieldType} {d nn nn' kc ns pc q tgt : Nat} {α : Nat → Nat} {σ : zSg} {h h' : zH} {lv lv' : List (Nat × Value)} {st rest stk stk2 : List Value} {off : Int} {ex : va_W}
variable {y : MethodName} {b : ByteArray} {nl idx : Nat} {rt2 : Option FieldType} {av : List Value} {rv : Option Value}
theorem y_callG {o ci : Nat} {T : u_T} {N : Nat} {ty : Nat → FieldType} (C : yV υ own cc nL rt) (hG : zG σ (yA υ) (ys υ) (ys υ).heap) (hn : zN ≤ nn ∧ nn ≤ zN + 1) (cl : zCl ci y.cls T N ty) (ho : o < zN) (hd : zkd o = ci) (hM : gMet (yl υ) y b nl rt2 d (yD υ) (ycy υ) α nn σ (.ref (α o) :: av) h rv nn' h') (hY : zYV y b nl rt2 av.length) (hR : d + 1 ≤ (yR υ).frames ∧ 40 * d + 40 ≤ (yR υ).locals) (hk : kc + 1 ≤ (yR υ).cells ∧ ns + 3125 ≤ (yR υ).slots) (hw : Cond.methodLink own idx y ∈ lw_tbl) (hc : (rest.map fun v => v.category).sum ≤ 8) (hdg : decode cc pc = .ok (.invokevirtual idx, 3)) (hs : stk = av.reverse ++ .ref (α o) :: rest) (hq : pc + 3 = q) (hs2 : stk2 = rv.toList ++ rest) (kk : ∀ α' : Nat → Nat, (∀ i, i < nn → α' i = α i) → zY υ (zws (ycy υ) α' nn' h' ++ ex) (kc + 1) (ns + 3125) q lv stk2) : zY υ (zws (ycy υ) α nn h ++ ex) kc ns pc lv stk := by
  subst hq; subst hs; subst hs2
  intro H locs hP hD hS ls hl
  have hts := C.2.2.2.2.1
  obtain ⟨⟨y1, y2, y3, y4⟩, y5, y6⟩ := hY
  have hon : o < nn := Nat.lt_of_lt_of_le ho hn.1
  have hr := va_runV (own := own) (cells := kc) (slots := ns) (locs := locs) (Ts := zTb') (C := y.cls) (p := yp υ) (e := ye υ) (below := ybe υ) (meth := yme υ) (g := F0 (ym υ) pc ls (av.reverse ++ .ref (α o) :: rest)) ⟨C.1, C.2.1, C.2.2.1, C.2.2.2.1, hts⟩ (hM H.size) ⟨callB_of (R := yR υ) _ hts (z_good y1) rfl rfl rfl (hts _ (z_in y2 rfl)) (hts _ (z_in hw rfl)) y3 ⟨hR.1, by show 8 + (nl + 11) + 40 * d ≤ _; omega⟩, hts _ (z_in y5 rfl), hts _ (z_in y6 rfl)⟩ ⟨zPc_blind, va_recv C.2.2.2.2.2.1 (yz_P hP).1 (ci := ci) (q0 := o) cl.1 (by rw [zws_get hon, zent_o hd cl.2.2.2.1 cl.2.2.1]), yz_pre C hG hn hP hD hS⟩ rfl rfl (hl.1.trans C.2.2.1) rfl (lv_room hc) hdg hk
  intro T0 hT X
  obtain ⟨v, st₀, t, T', L, h0, X', hL, e1, e2, ⟨hv, ⟨α', hα, hP1, hD1⟩, hF1⟩, stp⟩ := hr T0 hT X
  cases hv
  rw [← e1] at hP1
  have hA1 := yz_A1 C hD hS
  have hkeep : ∀ x : Nat, x < H.size → ¬ zA α nn H.size x → T'.heap[x]? = H[x]? := fun x g1 g2 => by rw [e1, hF1.2 x (by rw [h0]; exact g1) g2, h0]
  have hS1 : va_S (yA υ) (ys υ).heap T'.heap (locs ++ L) := by
    refine ⟨Nat.le_trans hS.1 (by rw [e1, ← h0]; exact hF1.1), fun x g1 g2 => ?_, fun x hx => ?_⟩
    · rw [hkeep x (Nat.lt_of_lt_of_le g1 hS.1) (fun g3 => g2 (hA1 x g3))]
      exact hS.2.1 x g1 g2
    · rcases List.mem_append.mp hx with g | g
      · exact hS.2.2 x g
      · exact hA1 _ (hL x g)
  have hex : ∀ (j : Nat) (x : Nat × va_E), ex[j]? = some x → ¬ zA α nn H.size x.1 := fun j x hx g => by
    rcases g with ⟨i, hi, g⟩ | g
    · exact yz_ex hD hx i hi g
    · have := ((yz_P hP).2 j x hx).lt
      omega
  have hP2 : va_P (yD υ) vwCl (zws (ycy υ) α' nn' h' ++ ex) T'.heap := va_P.app hP1 (fun j x hx => ((yz_P hP).2 j x hx).kept (hkeep x.1 ((yz_P hP).2 j x hx).lt (hex j x hx)))
  have hDx : va_D (yA υ) ex := ⟨fun i j p q hp hq e => by
    have g : ∀ (i : Nat) (p : Nat × va_E), ex[i]? = some p → (zws (ycy υ) α nn h ++ ex)[nn + i]? = some p := fun i p hp => by
      rw [List.getElem?_append_right (by rw [zws_len]; omega), zws_len, Nat.add_sub_cancel_left]; exact hp
    have := hD.1 _ _ p q (g i p hp) (g j q hq) e
    omega, fun j x hx => hD.2 (nn + j) x (by rw [List.getElem?_append_right (by rw [zws_len]; omega), zws_len, Nat.add_sub_cancel_left]; exact hx)⟩
  have hD2 : va_D (yA υ) (zws (ycy υ) α' nn' h' ++ ex) := va_D.app (hD1.weaken (fun k q _ g => hA1 q.1 g)) hDx (fun i j p q hp hq e => hex j q hq (by rw [← e]; exact hD1.2 i p hp))
  obtain ⟨t2, a1, b1⟩ := kk α' hα T'.heap (locs ++ L) hP2 hD2 hS1 ls hl T' rfl X'
  exact ⟨t2, stp t2 a1, b1⟩
end WG
set_option maxRecDepth 20000 in
set_option maxHeartbeats 4000000 in
theorem Jw_fX6_findRests_c66b {υ : zU} {α : Nat → Nat} {d nn kc ns : Nat} {σ : zSg} (C : wC υ RX6 cX6_findRests 5 (some .int) d nn kc ns σ) (hd : 5 ≤ d + 1) (hn1 : zN < nn) {N : Nat} {o1 : Nat} (ho1 : o1 < zN) (hd1 : zkd o1 = 1) {r : Int × zH} (e1 : ∀ (pc : Nat) (lv : List (Nat × Value)), decode cX6_findRests pc = .ok (.ireturn, 1) → Yw υ α nn kc ns r.2 pc lv [.int (zi r.1)]) {K66 : Int → Int → zH → Option (Int × zH)} (hK66 : ∀ (l2 : Int) (l3 : Int) (h : zH), K66 l2 l3 h = some r → Yw υ α nn kc ns h 66 [(0, .ref (α 12)), (1, .ref (α o1)), (2, .int (zi l2)), (3, .int (zi l3))] []) (l2 : Int) (l3 : Int) (h : zH) (hF : fX6_findRests_c66b N o1 K66 l2 l3 h = some r) : Yw υ α nn kc ns h 66 [(0, .ref (α 12)), (1, .ref (α o1)), (2, .int (zi l2)), (3, .int (zi l3))] [] := by
  unfold fX6_findRests_c66b at hF
  refine w_iload_n (q := 67) C dX6_findRests_66 3 rfl rfl rfl ?_
  refine w_iload_n (q := 68) C dX6_findRests_67 2 rfl rfl rfl ?_
  refine w_icmp_ge (tgt := 116) (q := 71) C dX6_findRests_68 (by decide) rfl (fun c1 => ?_) (fun c1 => ?_)
  · have hF := (if_pos c1).symm.trans hF
    refine w_aload_n (q := 117) C dX6_findRests_116 0 rfl rfl rfl ?_
    refine w_iconst (q := 118) C dX6_findRests_117 rfl ?_
    obtain ⟨h2, eh2, hF⟩ := zlet_e hF
    refine w_putf (q := 121) C clX6 zo_12 kd_12 (k := 5) (x := 1) (by decide) q_237 rfl rfl (zbn (Or.inr rfl)) (zbf (Or.inr rfl)) (((zfv_i kd_12 rfl)).trans (by rw [if_pos rfl])) dX6_findRests_118 rfl eh2 ?_
    refine w_aload_n (q := 122) C dX6_findRests_121 0 rfl rfl rfl ?_
    refine w_getf (q := 125) C clX6 zo_12 kd_12 (k := 4) (by decide) q_236 rfl (zfv_i kd_12 rfl) dX6_findRests_122 rfl ?_
    have hF := Option.some.inj hF
    subst hF
    exact e1 _ _ dX6_findRests_125
  · have hF := (if_neg c1).symm.trans hF
    refine w_aload_n (q := 72) C dX6_findRests_71 0 rfl rfl rfl ?_
    refine w_aload_n (q := 73) C dX6_findRests_72 1 rfl rfl rfl ?_
    refine w_iload_n (q := 74) C dX6_findRests_73 3 rfl rfl rfl ?_
    obtain ⟨v4, h3, ev4, hF⟩ := z2_e hF
    refine w_callV (q := 77) (o := 12) (av := [.ref (α o1), .int (zi l3)]) (rest := []) (stk2 := [.int (zi v4)]) C clX6 zo_12 kd_12 (M_fX6_chooseNth (zlv hd rfl) ho1 hd1 ev4) mY_X6_chooseNth q_956 (Nat.le_of_ble_eq_true rfl) dX6_findRests_74 rfl rfl rfl ?_
    refine w_istore (q := 79) C dX6_findRests_77 (by decide) rfl rfl ?_
    refine w_aload_n (q := 80) C dX6_findRests_79 1 rfl rfl rfl ?_
    refine w_aload_n (q := 81) C dX6_findRests_80 2 rfl rfl rfl ?_
    obtain ⟨v6, h5, ev6, hF⟩ := z2_e hF
    refine w_callV (q := 84) (o := 12) (av := [.ref (α o1)]) (rest := []) (stk2 := [.int (zi v6)]) C clX6 zo_12 kd_12 (M_fX6_isAtRest (zlv hd rfl) ho1 hd1 ev6) mY_X6_isAtRest q_961 (Nat.le_of_ble_eq_true rfl) dX6_findRests_81 rfl rfl rfl ?_
    refine w_if_eq (tgt := 110) (q := 87) C dX6_findRests_84 (by decide) rfl (fun c7 => ?_) (fun c7 => ?_)
    · have hF := (if_pos c7).symm.trans hF
      refine w_iinc (q := 113) (x := l3) C dX6_findRests_110 (j := 4) rfl (by decide) rfl rfl ?_
      refine w_goto (q := 66) C dX6_findRests_113 (by decide) ?_
      exact w_sub (hK66 _ _ _ hF) [2, 3, 4, 0] rfl
    · have hF := (if_neg c7).symm.trans hF
      refine w_aload_n (q := 88) C dX6_findRests_87 1 rfl rfl rfl ?_
      refine w_getf (q := 91) C clX6 zo_12 kd_12 (k := 3) (by decide) q_235 rfl (zfv_n hn1 kd_12 rfl) dX6_findRests_88 rfl ?_
      refine w_aload_n (q := 92) C dX6_findRests_91 1 rfl rfl rfl ?_
      refine w_getf (q := 95) C clX6 zo_12 kd_12 (k := 4) (by decide) q_236 rfl (zfv_i kd_12 rfl) dX6_findRests_92 rfl ?_
      refine w_iload (q := 97) C dX6_findRests_95 0 rfl rfl ?_
      obtain ⟨h8, eh8, hF⟩ := zlet_e hF
      refine w_callSN (q := 100) (av := [.ref (α 76), .int (zi (h5 12 4)), .int (zi v4)]) (rest := []) (stk2 := []) C (M_putg (zlv hd rfl) hn1 kd76 eh8.symm) mY_X10_put q_942 (Nat.le_of_ble_eq_true rfl) dX6_findRests_97 rfl rfl rfl ?_
      refine w_aload_n (q := 101) C dX6_findRests_100 1 rfl rfl rfl ?_
      refine w_dup (q := 102) C dX6_findRests_101 rfl rfl ?_
      refine w_getf (q := 105) C clX6 zo_12 kd_12 (k := 4) (by decide) q_236 rfl (zfv_i kd_12 rfl) dX6_findRests_102 rfl ?_
      refine w_iconst (q := 106) C dX6_findRests_105 rfl ?_
      refine w_iadd (q := 107) C dX6_findRests_106 rfl ?_
      obtain ⟨h9, eh9, hF⟩ := zlet_e hF
      refine w_putf (q := 110) C clX6 zo_12 kd_12 (k := 4) (x := (h8 12 4) + 1) (by decide) q_236 rfl rfl rfl rfl (((zfv_i kd_12 rfl)).trans (by rw [if_pos rfl])) dX6_findRests_107 rfl eh9 ?_
      refine w_iinc (q := 113) (x := l3) C dX6_findRests_110 (j := 4) rfl (by decide) rfl rfl ?_
      refine w_goto (q := 66) C dX6_findRests_113 (by decide) ?_
      exact w_sub (hK66 _ _ _ hF) [2, 3, 4, 0] rfl
set_option maxRecDepth 20000 in
set_option maxHeartbeats 4000000 in
theorem Jw_fX6_findRests_c66 {υ : zU} {α : Nat → Nat} {d nn kc ns : Nat} {σ : zSg} (C : wC υ RX6 cX6_findRests 5 (some .int) d nn kc ns σ) (hd : 5 ≤ d + 1) (hn1 : zN < nn) {N : Nat} {o1 : Nat} (ho1 : o1 < zN) (hd1 : zkd o1 = 1) {r : Int × zH} (e1 : ∀ (pc : Nat) (lv : List (Nat × Value)), decode cX6_findRests pc = .ok (.ireturn, 1) → Yw υ α nn kc ns r.2 pc lv [.int (zi r.1)]) : ∀ (k : Nat) (l2 : Int) (l3 : Int) (h : zH), fX6_findRests_c66 N o1 k l2 l3 h = some r → Yw υ α nn kc ns h 66 [(0, .ref (α 12)), (1, .ref (α o1)), (2, .int (zi l2)), (3, .int (zi l3))] [] := by
  intro k
  induction k with
  | zero => intro l2 l3 h hF; cases hF
  | succ k ih => intro l2 l3 h hF; exact Jw_fX6_findRests_c66b C hd hn1 ho1 hd1 e1 ih l2 l3 h hF
set_option maxRecDepth 20000 in
set_option maxHeartbeats 4000000 in
theorem Jw_fX6_findRests_c42b {υ : zU} {α : Nat → Nat} {d nn kc ns : Nat} {σ : zSg} (C : wC υ RX6 cX6_findRests 5 (some .int) d nn kc ns σ) (hd : 5 ≤ d + 1) (hn1 : zN < nn) {N : Nat} {o1 : Nat} (ho1 : o1 < zN) (hd1 : zkd o1 = 1) {r : Int × zH} (e1 : ∀ (pc : Nat) (lv : List (Nat × Value)), decode cX6_findRests pc = .ok (.ireturn, 1) → Yw υ α nn kc ns r.2 pc lv [.int (zi r.1)]) {K42 : Int → Int → zH → Option (Int × zH)} (hK42 : ∀ (l2 : Int) (l3 : Int) (h : zH), K42 l2 l3 h = some r → Yw υ α nn kc ns h 42 [(0, .ref (α 12)), (1, .ref (α o1)), (2, .int (zi l2)), (3, .int (zi l3))] []) (l2 : Int) (l3 : Int) (h : zH) (hF : fX6_findRests_c42b N o1 K42 l2 l3 h = some r) : Yw υ α nn kc ns h 42 [(0, .ref (α 12)), (1, .ref (α o1)), (2, .int (zi l2)), (3, .int (zi l3))] [] := by
  unfold fX6_findRests_c42b at hF
  refine w_iload_n (q := 43) C dX6_findRests_42 3 rfl rfl rfl ?_
  refine w_aload_n (q := 44) C dX6_findRests_43 1 rfl rfl rfl ?_
  refine w_iconst (q := 45) C dX6_findRests_44 rfl ?_
  refine w_callV (q := 48) (o := o1) (av := [.int (zi 1)]) (rest := [.int (zi l3)]) (stk2 := [.int (zi (fX1_many o1 1 h)), .int (zi l3)]) C clX1 ho1 hd1 (M_fX1_many (zlv hd rfl) ho1 hd1 rfl) mY_X1_many q_939 (Nat.le_of_ble_eq_true rfl) dX6_findRests_45 rfl rfl rfl ?_
  refine w_icmp_ge (tgt := 64) (q := 51) C dX6_findRests_48 (by decide) rfl (fun c1 => ?_) (fun c1 => ?_)
  · have hF := (if_pos c1).symm.trans hF
    refine w_iconst (q := 65) C dX6_findRests_64 rfl ?_
    refine w_istore_n (q := 66) C dX6_findRests_65 (by decide) rfl rfl rfl ?_
    exact w_sub (Jw_fX6_findRests_c66 C hd hn1 ho1 hd1 e1 N _ _ _ hF) [1, 2, 3, 0] rfl
  · have hF := (if_neg c1).symm.trans hF
    refine w_iload_n (q := 52) C dX6_findRests_51 2 rfl rfl rfl ?_
    refine w_aload_n (q := 53) C dX6_findRests_52 0 rfl rfl rfl ?_
    refine w_getf (q := 56) C clX6 zo_12 kd_12 (k := 2) (by decide) q_234 rfl (zfv_i kd_12 rfl) dX6_findRests_53 rfl ?_
    refine w_imul (q := 57) C dX6_findRests_56 rfl ?_
    obtain ⟨v2, ev2, hF⟩ := zlet_e hF
    refine w_istoreE_n (q := 58) C ev2 dX6_findRests_57 (by decide) rfl rfl rfl ?_
    refine w_iinc (q := 61) (x := l3) C dX6_findRests_58 (j := 3) rfl (by decide) rfl rfl ?_
    refine w_goto (q := 42) C dX6_findRests_61 (by decide) ?_
    exact w_sub (hK42 _ _ _ hF) [2, 3, 1, 0] rfl
set_option maxRecDepth 20000 in
set_option maxHeartbeats 4000000 in
theorem Jw_fX6_findRests_c42 {υ : zU} {α : Nat → Nat} {d nn kc ns : Nat} {σ : zSg} (C : wC υ RX6 cX6_findRests 5 (some .int) d nn kc ns σ) (hd : 5 ≤ d + 1) (hn1 : zN < nn) {N : Nat} {o1 : Nat} (ho1 : o1 < zN) (hd1 : zkd o1 = 1) {r : Int × zH} (e1 : ∀ (pc : Nat) (lv : List (Nat × Value)), decode cX6_findRests pc = .ok (.ireturn, 1) → Yw υ α nn kc ns r.2 pc lv [.int (zi r.1)]) : ∀ (k : Nat) (l2 : Int) (l3 : Int) (h : zH), fX6_findRests_c42 N o1 k l2 l3 h = some r → Yw υ α nn kc ns h 42 [(0, .ref (α 12)), (1, .ref (α o1)), (2, .int (zi l2)), (3, .int (zi l3))] [] := by
  intro k
  induction k with
  | zero => intro l2 l3 h hF; cases hF
  | succ k ih => intro l2 l3 h hF; exact Jw_fX6_findRests_c42b C hd hn1 ho1 hd1 e1 ih l2 l3 h hF
set_option maxRecDepth 20000 in
set_option maxHeartbeats 4000000 in
theorem Jw_fX6_findRests_28 {υ : zU} {α : Nat → Nat} {d nn kc ns : Nat} {σ : zSg} (C : wC υ RX6 cX6_findRests 5 (some .int) d nn kc ns σ) (hd : 5 ≤ d + 1) (hn1 : zN < nn) {N : Nat} {o1 : Nat} (ho1 : o1 < zN) (hd1 : zkd o1 = 1) {r : Int × zH} (e1 : ∀ (pc : Nat) (lv : List (Nat × Value)), decode cX6_findRests pc = .ok (.ireturn, 1) → Yw υ α nn kc ns r.2 pc lv [.int (zi r.1)]) {h : zH} (hF : (zb (fX6_listForms N o1 h) fun h2 => zlet (zs h2 12 4 0) fun h3 => fX6_findRests_c42 N o1 N 1 0 h3) = some r) : Yw υ α nn kc ns h 28 [(0, .ref (α 12)), (1, .ref (α o1))] [] := by
  refine w_aload_n (q := 29) C dX6_findRests_28 0 rfl rfl rfl ?_
  refine w_aload_n (q := 30) C dX6_findRests_29 1 rfl rfl rfl ?_
  obtain ⟨h2, eh2, hF⟩ := zb_e hF
  refine w_callV (q := 33) (o := 12) (av := [.ref (α o1)]) (rest := []) (stk2 := []) C clX6 zo_12 kd_12 (M_fX6_listForms (zlv hd rfl) ho1 hd1 eh2) mY_X6_listForms q_952 (Nat.le_of_ble_eq_true rfl) dX6_findRests_30 rfl rfl rfl ?_
  refine w_aload_n (q := 34) C dX6_findRests_33 0 rfl rfl rfl ?_
  refine w_iconst (q := 35) C dX6_findRests_34 rfl ?_
  obtain ⟨h3, eh3, hF⟩ := zlet_e hF
  refine w_putf (q := 38) C clX6 zo_12 kd_12 (k := 4) (x := 0) (by decide) q_236 rfl rfl rfl rfl (((zfv_i kd_12 rfl)).trans (by rw [if_pos rfl])) dX6_findRests_35 rfl eh3 ?_
  refine w_iconst (q := 39) C dX6_findRests_38 rfl ?_
  refine w_istore_n (q := 40) C dX6_findRests_39 (by decide) rfl rfl rfl ?_
  refine w_iconst (q := 41) C dX6_findRests_40 rfl ?_
  refine w_istore_n (q := 42) C dX6_findRests_41 (by decide) rfl rfl rfl ?_
  exact w_sub (Jw_fX6_findRests_c42 C hd hn1 ho1 hd1 e1 N _ _ _ hF) [2, 3, 1, 0] rfl
/-! the array comes to the world -/
theorem kind_tab : ∀ i : Nat, i < 76 → i ≠ 12 → ∀ k : Nat, k < 50 → zfk (zkd i) k ≤ 2 ∧ zfr i k < 76 := by decide +kernel
theorem nf_tab : ∀ i : Nat, i < 76 → zkd i < 100 → znf (zkd i) ≤ 50 := by decide +kernel
def αg (α : Nat → Nat) (z : Nat) : Nat → Nat := fun i => if i = 76 then z else α i
def hg (h : zH) : zH := fun b => if b = 76 then (fun _ => 0) else h b
theorem zent_g {cy : ClassId} {α : Nat → Nat} {z i : Nat} {r : Nat → Int} (hi : i < 76) (h12 : i ≠ 12) : zent cy (αg α z) (zN + 1) i r = zent cy α zN i r := by
  unfold zent
  by_cases hk : zkd i < 100
  · rw [if_pos hk, if_pos hk]
    congr 2
    apply List.map_congr_left
    intro k hkr
    have hk50 : k < 50 := Nat.lt_of_lt_of_le (List.mem_range.mp hkr) (nf_tab i hi hk)
    obtain ⟨a, b⟩ := kind_tab i hi h12 k hk50
    unfold zfv
    rcases (show zfk (zkd i) k = 0 ∨ zfk (zkd i) k = 1 ∨ zfk (zkd i) k = 2 by omega) with e | e | e
    · rw [e]; rfl
    · rw [e]
      show Value.ref (if zfr i k = 76 then z else α (zfr i k)) = .ref (α (zfr i k))
      rw [if_neg (by omega)]
    · rw [e]; rfl
  · rw [if_neg hk, if_neg hk]
theorem zws_g {cy : ClassId} {α : Nat → Nat} {z : Nat} {h : zH} : (zws cy α zN h ++ [((z, .inl (cy, 3125, .inl (fun _ => 0))) : Nat × va_E)]).set 12 ((α 12, .inr (6, ((List.range 6).map (zfv α zN 12 (h 12))).set 3 (.ref z))) : Nat × va_E) = zws cy (αg α z) (zN + 1) (hg h) := by
  apply List.ext_getElem?
  intro i
  rw [List.getElem?_set]
  by_cases e12 : 12 = i
  · subst e12
    rw [if_pos rfl, if_pos (by rw [List.length_append, zws_len]; show 12 < 76 + 1; decide), zws_get (by decide)]
    rfl
  · rw [if_neg e12]
    by_cases hi : i < 76
    · rw [List.getElem?_append_left (by rw [zws_len]; exact hi), zws_get (show i < zN from hi), zws_get (show i < zN + 1 by show i < 76 + 1; omega)]
      show some (α i, zent cy α zN i (h i)) = some ((if i = 76 then z else α i), zent cy (αg α z) (zN + 1) i (if i = 76 then (fun _ => 0) else h i))
      rw [if_neg (by omega), if_neg (by omega), zent_g hi (fun e => e12 e.symm)]
    · by_cases e : i = 76
      · subst e
        rw [List.getElem?_append_right (by rw [zws_len]; decide), zws_len, zws_get (by decide)]
        rfl
      · rw [List.getElem?_eq_none (by rw [List.length_append, zws_len]; show 76 + 1 ≤ i; omega), List.getElem?_eq_none (by rw [zws_len]; show 76 + 1 ≤ i; omega)]
theorem w_put76 {υ : zU} {d kc ns pc q : Nat} {α : Nat → Nat} {σ : zSg} {h : zH} {lv : List (Nat × Value)} {st : List Value} {z idx : Nat} (C : wC υ RX6 cX6_findRests 5 (some .int) d zN kc ns σ) (hw : Cond.fieldLink RX6 idx "SunDesk$Sharing" "rows" "[I" ∈ lw_tbl) (hdg : decode cX6_findRests pc = .ok (.putfield idx, 3)) (hq : pc + 3 = q) (kk : Yw υ (αg α z) (zN + 1) kc ns (hg h) q lv st) : zY υ (zws (ycy υ) α zN h ++ [] ++ [(z, .inl (ycy υ, 3125, .inl (fun _ => 0)))]) kc ns pc lv (.ref z :: .ref (α 12) :: st) := by
  subst hq
  intro H locs hP hD hS ls hl
  obtain ⟨c1, c2, c3, c4, c5, c6⟩ := clX6
  rw [List.append_nil] at hP hD
  have g12 : (zws (ycy υ) α zN h ++ [((z, .inl (ycy υ, 3125, .inl (fun _ => 0))) : Nat × va_E)])[12]? = some (α 12, .inr (6, (List.range 6).map (zfv α zN 12 (h 12)))) := by
    rw [List.getElem?_append_left (by rw [zws_len]; decide), zws_get (by decide), zent_o kd_12 c4 c3]
  refine va_put (D := yD υ) (ref := "SunDesk$Sharing") C.1.1 C.1.2.1 C.1.2.2.2.2.1 c2 _ c5 c6 C.1.2.2.2.1 C.1.2.2.2.2.2.1 hP hD hS 12 g12 c1 3 (by decide) (C.1.2.2.2.2.1 _ (z_in hw rfl)) (fun x hx => hx) rfl (c5 3 (by decide)) rfl rfl (by simp) hdg (fun H1 locs1 hP1 hD1 hS1 => ?_)
  rw [zws_g] at hP1 hD1
  exact kk H1 locs1 (by rw [List.append_nil]; exact hP1) (by rw [List.append_nil]; exact hD1) hS1 ls hl
theorem w_ifnonnullN {υ : zU} {own : String} {cc : ByteArray} {nL : Nat} {rt : Option FieldType} {d nn kc ns pc q : Nat} {α : Nat → Nat} {σ : zSg} {h : zH} {lv : List (Nat × Value)} {st : List Value} (C : wC υ own cc nL rt d nn kc ns σ) {off : Int} (hdg : decode cc pc = .ok (.ifnonnull off, 3)) (hq : pc + 3 = q) (kk : Yw υ α nn kc ns h q lv st) : Yw υ α nn kc ns h pc lv (.null :: st) := by
  subst hq; intro H locs hP hD hS ls hl; exact lv_ifnonnullN C.1.1 C.1.2.1 hdg (kk H locs hP hD hS ls hl)
set_option maxRecDepth 20000 in
set_option maxHeartbeats 4000000 in
theorem G_findRests {l : Launch} {D : va_G} {cy : ClassId} {α : Nat → Nat} {σ : zSg} {d : Nat} (hd : 5 ≤ d) {N : Nat} {h : zH} {r : Int} {g : zH} (h5 : zw (h 12 5) = 0) (hF : fX6_findRests N 2 (hg h) = some (r, g)) : gMet l yX6_findRests cX6_findRests 5 (some .int) d D cy α zN σ [.ref (α 12), .ref (α 2)] h (some (.int (zi r))) (zN + 1) g := by
  obtain ⟨d, rfl⟩ : ∃ e, d = e + 1 := ⟨d - 1, by omega⟩
  refine g_met (by decide +kernel) (Nat.le_of_ble_eq_true rfl) (fun υ k1 k2 k3 k4 C0 hG hn hret => ?_)
  subst k1 k3 k4
  have hRm : d + 1 ≤ (yR υ).frames ∧ 40 * d + 40 ≤ (yR υ).locals := by rw [k2]; exact ⟨Nat.le_refl _, by show 40 * d + 40 ≤ 40 * (d + 1); omega⟩
  have C : wC υ RX6 cX6_findRests 5 (some .int) d zN 0 0 σ := ⟨C0, hG, hn, hRm, Nat.zero_le _, Nat.zero_le _⟩
  have C1 : wC υ RX6 cX6_findRests 5 (some .int) d zN 1 3125 σ := ⟨C0, hG, hn, hRm, by rw [k2]; exact ⟨Nat.le_refl _, Nat.le_refl _⟩⟩
  have Cg : wC υ RX6 cX6_findRests 5 (some .int) d (zN + 1) 1 3125 σ := ⟨C0, hG, ⟨Nat.le_succ _, Nat.le_refl _⟩, hRm, C1.2.2.2.2⟩
  have hF : (zb (fX6_listForms N 2 (hg h)) fun h2 => zlet (zs h2 12 4 0) fun h3 => fX6_findRests_c42 N 2 N 1 0 h3) = some (r, g) := by
    unfold fX6_findRests at hF
    exact (if_pos (show zw ((hg h) 12 5) = 0 from h5)).symm.trans hF
  refine w_aload_n (q := 1) C dX6_findRests_0 0 rfl rfl rfl ?_
  refine w_getf (q := 4) C clX6 zo_12 kd_12 (k := 5) (by decide) q_237 rfl (zfv_i kd_12 rfl) dX6_findRests_1 rfl ?_
  refine w_if_eq (tgt := 12) (q := 7) C dX6_findRests_4 (by decide) rfl (fun _ => ?_) (fun c => absurd h5 c)
  refine w_aload_n (q := 13) C dX6_findRests_12 0 rfl rfl rfl ?_
  refine w_getf (q := 16) (v := .null) C clX6 zo_12 kd_12 (k := 3) (by decide) q_235 rfl rfl dX6_findRests_13 rfl ?_
  refine w_ifnonnullN (q := 19) C dX6_findRests_16 rfl ?_
  refine w_aload_n (q := 20) C dX6_findRests_19 0 rfl rfl rfl ?_
  refine y_sipush (q := 23) (v := (3125 : Int32)) C0 dX6_findRests_20 (by decide) rfl ?_
  refine y_newa (q := 25) (N := 3125) C0 (by decide) (by decide) (Nat.le_of_ble_eq_true rfl) C1.2.2.2.2.1 C1.2.2.2.2.2 dX6_findRests_23 rfl (fun z => ?_)
  refine w_put76 (q := 28) C1 q_235 dX6_findRests_25 rfl ?_
  exact Jw_fX6_findRests_28 Cg hd (Nat.lt_succ_self _) zo_2 kd_2 (r := (r, g)) (fun pc lv hdec => hret (αg α z) pc lv (fun i hi => if_neg (by have : i < 76 := hi; omega)) hdec) hF
set_option maxRecDepth 20000 in
set_option maxHeartbeats 4000000 in
theorem G_rests {l : Launch} {D : va_G} {cy : ClassId} {α : Nat → Nat} {σ : zSg} {d : Nat} (hd : 6 ≤ d) {N : Nat} {a1 : Int} {h : zH} {r : Int} {g : zH} (h5 : zw (h 12 5) = 0) (c1 : ¬ zw (fX10_hasHill h) = 0) (c2 : zw (fX1_many 2 1 h) ≤ zw 5) (hF : fX10_rests N a1 (hg h) = some (r, g)) : gMet l yX10_rests cX10_rests 3 (some .int) d D cy α zN σ [.ref (α 0), .int (zi a1)] h (some (.int (zi r))) (zN + 1) g := by
  obtain ⟨d, rfl⟩ : ∃ e, d = e + 1 := ⟨d - 1, by omega⟩
  refine g_met (by decide +kernel) (Nat.le_of_ble_eq_true rfl) (fun υ k1 k2 k3 k4 C0 hG hn hret => ?_)
  subst k1 k3 k4
  have hRm : d + 1 ≤ (yR υ).frames ∧ 40 * d + 40 ≤ (yR υ).locals := by rw [k2]; exact ⟨Nat.le_refl _, by show 40 * d + 40 ≤ 40 * (d + 1); omega⟩
  have C : wC υ RX10 cX10_rests 3 (some .int) d zN 0 0 σ := ⟨C0, hG, hn, hRm, Nat.zero_le _, Nat.zero_le _⟩
  have Cg : wC υ RX10 cX10_rests 3 (some .int) d (zN + 1) 1 3125 σ := ⟨C0, hG, ⟨Nat.le_succ _, Nat.le_refl _⟩, hRm, by rw [k2]; exact ⟨Nat.le_refl _, Nat.le_refl _⟩⟩
  unfold fX10_rests at hF
  have hF := (if_neg (show ¬ zw (fX10_hasHill (hg h)) = 0 from c1)).symm.trans hF
  have hF := (if_pos (show zw (fX1_many 2 1 (hg h)) ≤ zw 5 from c2)).symm.trans hF
  obtain ⟨v4, h3, ev4, hF⟩ := z2_e hF
  refine w_aload_n (q := 1) C dX10_rests_0 0 rfl rfl rfl ?_
  refine w_callV (q := 4) (o := 0) (av := []) (rest := []) (stk2 := [.int (zi (fX10_hasHill h))]) C clX10 zo_0 kd_0 (M_fX10_hasHill (zlv hd rfl) rfl) mY_X10_hasHill q_625 (Nat.le_of_ble_eq_true rfl) dX10_rests_1 rfl rfl rfl ?_
  refine w_if_ne (tgt := 9) (q := 7) C dX10_rests_4 (by decide) rfl (fun _ => ?_) (fun e => absurd e c1)
  refine w_aload_n (q := 10) C dX10_rests_9 0 rfl rfl rfl ?_
  refine w_getf (q := 13) C clX10 zo_0 kd_0 (k := 1) (by decide) q_272 rfl (zfv_r kd_0 rfl fr_0_1) dX10_rests_10 rfl ?_
  refine w_iconst (q := 14) C dX10_rests_13 rfl ?_
  refine w_callV (q := 17) (o := 2) (av := [.int (zi 1)]) (rest := []) (stk2 := [.int (zi (fX1_many 2 1 h))]) C clX1 zo_2 kd_2 (M_fX1_many (zlv hd rfl) zo_2 kd_2 rfl) mY_X1_many q_620 (Nat.le_of_ble_eq_true rfl) dX10_rests_14 rfl rfl rfl ?_
  refine w_iconst (q := 18) C dX10_rests_17 rfl ?_
  refine w_icmp_le (tgt := 24) (q := 21) C dX10_rests_18 (by decide) rfl (fun _ => ?_) (fun e => absurd c2 e)
  refine w_aload_n (q := 25) C dX10_rests_24 0 rfl rfl rfl ?_
  refine w_getf (q := 28) C clX10 zo_0 kd_0 (k := 11) (by decide) q_282 rfl (zfv_r kd_0 rfl fr_0_11) dX10_rests_25 rfl ?_
  refine w_aload_n (q := 29) C dX10_rests_28 0 rfl rfl rfl ?_
  refine w_getf (q := 32) C clX10 zo_0 kd_0 (k := 1) (by decide) q_272 rfl (zfv_r kd_0 rfl fr_0_1) dX10_rests_29 rfl ?_
  refine y_callG (q := 35) (o := 12) (av := [.ref (α 2)]) (rest := []) (stk2 := [.int (zi v4)]) C0 hG hn clX6 zo_12 kd_12 (G_findRests (zlv hd rfl) h5 ev4) mY_X6_findRests hRm Cg.2.2.2.2 q_948 (Nat.le_of_ble_eq_true rfl) dX10_rests_32 rfl rfl rfl (fun α' hα => ?_)
  have e0 : α 0 = α' 0 := (hα 0 (by decide)).symm
  show Yw υ α' (zN + 1) 1 3125 h3 35 [(0, .ref (α 0)), (1, .int (zi a1))] [.int (zi v4)]
  rw [e0]
  have hn1 : zN < zN + 1 := Nat.lt_succ_self _
  refine w_istore_n (q := 36) Cg dX10_rests_35 (by decide) rfl rfl rfl ?_
  refine w_iload_n (q := 37) Cg dX10_rests_36 2 rfl rfl rfl ?_
  refine w_iconst (q := 38) Cg dX10_rests_37 rfl ?_
  refine w_icmp_ne (tgt := 45) (q := 41) Cg dX10_rests_38 (by decide) rfl (fun c5 => ?_) (fun c5 => ?_)
  · have hF := (if_neg c5).symm.trans hF
    refine w_aload_n (q := 46) Cg dX10_rests_45 1 rfl rfl rfl ?_
    refine w_getf (q := 49) Cg clX10 zo_0 kd_0 (k := 11) (by decide) q_282 rfl (zfv_r kd_0 rfl fr_0_11) dX10_rests_46 rfl ?_
    refine w_iload_n (q := 50) Cg dX10_rests_49 2 rfl rfl rfl ?_
    refine w_callV (q := 53) (o := 12) (av := [.int (zi a1)]) (rest := []) (stk2 := [.int (zi (fX6_rest a1 h3))]) Cg clX6 zo_12 kd_12 (M_fX6_rest (zlv hd rfl) hn1 rfl) mY_X6_rest q_966 (Nat.le_of_ble_eq_true rfl) dX10_rests_50 rfl rfl rfl ?_
    have hF := Option.some.inj hF
    cases hF
    exact hret α' 53 _ hα dX10_rests_53
  · have hF := (if_pos c5).symm.trans hF
    refine w_iload_n (q := 42) Cg dX10_rests_41 0 rfl rfl rfl ?_
    refine w_goto (q := 53) Cg dX10_rests_42 (by decide) ?_
    have hF := Option.some.inj hF
    cases hF
    exact hret α' 53 _ hα dX10_rests_53
set_option maxRecDepth 20000 in
set_option maxHeartbeats 4000000 in
theorem M_restsE {l : Launch} {D : va_G} {cy : ClassId} {α : Nat → Nat} {n : Nat} {σ : zSg} {d : Nat} (hd : 6 ≤ d) {N : Nat} {a1 : Int} {h : zH} {r : Int} {g : zH} (hc : zw (fX10_hasHill h) = 0 ∨ ¬ zw (fX10_hasHill h) = 0 ∧ ¬ zw (fX1_many 2 1 h) ≤ zw 5) (hF : fX10_rests N a1 h = some (r, g)) : zMet l yX10_rests cX10_rests 3 (some .int) (zrm d) D cy α n σ [.ref (α 0), .int (zi a1)] h (some (.int (zi r))) g := by
  obtain ⟨d, rfl⟩ : ∃ e, d = e + 1 := ⟨d - 1, by omega⟩
  refine z_met (by decide +kernel) (Nat.le_of_ble_eq_true rfl) (fun κ k1 k2 k3 k4 k5 k6 k7 k8 k9 C => ?_)
  subst k1 k3 k4 k5 k6 k7
  have hR := k2
  unfold fX10_rests at hF
  refine z_aload_n (q := 1) C dX10_rests_0 0 rfl rfl rfl ?_
  refine z_callV (q := 4) (o := 0) (av := []) (rest := []) (stk2 := [.int (zi (fX10_hasHill h))]) C hR clX10 (zon C zo_0) kd_0 (M_fX10_hasHill (zlv hd rfl) rfl) mY_X10_hasHill q_625 (Nat.le_of_ble_eq_true rfl) dX10_rests_1 rfl rfl rfl ?_
  refine z_if_ne (tgt := 9) (q := 7) C dX10_rests_4 (by decide) rfl (fun c1 => ?_) (fun c1 => ?_)
  · have hF := (if_neg c1).symm.trans hF
    have c2 : ¬ zw (fX1_many 2 1 h) ≤ zw 5 := by
      rcases hc with e | e
      · exact absurd e c1
      · exact e.2
    refine z_aload_n (q := 10) C dX10_rests_9 0 rfl rfl rfl ?_
    refine z_getf (q := 13) C clX10 (zon C zo_0) kd_0 (k := 1) (by decide) q_272 rfl (zfv_r kd_0 rfl fr_0_1) dX10_rests_10 rfl ?_
    refine z_iconst (q := 14) C dX10_rests_13 rfl ?_
    refine z_callV (q := 17) (o := 2) (av := [.int (zi 1)]) (rest := []) (stk2 := [.int (zi (fX1_many 2 1 h))]) C hR clX1 (zon C zo_2) kd_2 (M_fX1_many (zlv hd rfl) zo_2 kd_2 rfl) mY_X1_many q_620 (Nat.le_of_ble_eq_true rfl) dX10_rests_14 rfl rfl rfl ?_
    refine z_iconst (q := 18) C dX10_rests_17 rfl ?_
    refine z_icmp_le (tgt := 24) (q := 21) C dX10_rests_18 (by decide) rfl (fun e => absurd e c2) (fun _ => ?_)
    have hF := (if_neg c2).symm.trans hF
    refine z_ldc (q := 23) C kc_RX10_221 dX10_rests_21 rfl ?_
    have hF := Option.some.inj hF
    cases hF
    exact z_iret C k8 k9 dX10_rests_23
  · have hF := (if_pos c1).symm.trans hF
    refine z_iconst (q := 8) C dX10_rests_7 rfl ?_
    have hF := Option.some.inj hF
    cases hF
    exact z_iret C k8 k9 dX10_rests_8
