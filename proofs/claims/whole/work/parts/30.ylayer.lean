/-! the layer of worlds that grow: constructors and the law -/
abbrev zU : Type := Program × Launch × Env × Room × State × MethodId × Array Value × List Frame × Method × Code × va_G × ClassId × (Nat → Prop) × (State → Prop)
abbrev yp (υ : zU) : Program := υ.1
abbrev yl (υ : zU) : Launch := υ.2.1
abbrev ye (υ : zU) : Env := υ.2.2.1
abbrev yR (υ : zU) : Room := υ.2.2.2.1
abbrev ys (υ : zU) : State := υ.2.2.2.2.1
abbrev ym (υ : zU) : MethodId := υ.2.2.2.2.2.1
abbrev yar (υ : zU) : Array Value := υ.2.2.2.2.2.2.1
abbrev ybe (υ : zU) : List Frame := υ.2.2.2.2.2.2.2.1
abbrev yme (υ : zU) : Method := υ.2.2.2.2.2.2.2.2.1
abbrev yc (υ : zU) : Code := υ.2.2.2.2.2.2.2.2.2.1
abbrev yD (υ : zU) : va_G := υ.2.2.2.2.2.2.2.2.2.2.1
abbrev ycy (υ : zU) : ClassId := υ.2.2.2.2.2.2.2.2.2.2.2.1
abbrev yA (υ : zU) : Nat → Prop := υ.2.2.2.2.2.2.2.2.2.2.2.2.1
abbrev yQ (υ : zU) : State → Prop := υ.2.2.2.2.2.2.2.2.2.2.2.2.2
def yV (υ : zU) (own : String) (cc : ByteArray) (nL : Nat) (rt : Option FieldType) : Prop :=
  (yp υ).tables.exec = Jvm.exec ∧ (yc υ).code = cc ∧ (yc υ).maxLocals = nL ∧ (ys υ).vm.findClass own = some (ym υ).cls ∧ (∀ w ∈ zTb', w.before (yar υ) (ys υ) = true) ∧ va_K (yD υ) vwCl [(ycy υ, .int)] (ys υ) ∧ (∀ q, (ys υ).heap.size ≤ q → yA υ q) ∧ (yme υ).locks = false ∧ (yme υ).sig.returnType = rt ∧ ∀ w ∈ zNe, va_Nw w (ys υ)
def zY (υ : zU) (ws : va_W) (k n pc : Nat) (lv : List (Nat × Value)) (st : List Value) : Prop :=
  ∀ (H : Heap) (locs : List Loc), va_P (yD υ) vwCl ws H → va_D (yA υ) ws → va_S (yA υ) (ys υ).heap H locs → ∀ ls : Array Slot, lv_has ls (yc υ).maxLocals lv → W (yp υ) (yl υ) (ye υ) (yR υ) (ys υ) (ym υ) (yar υ) (ybe υ) (yme υ) (yc υ) H locs k n (yQ υ) (F0 (ym υ) pc ls st)
section YR
variable {υ : zU} {own : String} {cc : ByteArray} {nL : Nat} {rt : Option FieldType} {ws : va_W} {k n pc q : Nat} {lv lv' : List (Nat × Value)} {st : List Value}
theorem y_iconst (C : yV υ own cc nL rt) {i : Int} {v : Int32} (hdg : decode cc pc = .ok (.iconst i, 1)) (hv : Int32.ofInt i = v) (hq : pc + 1 = q) (kk : zY υ ws k n q lv (.int v :: st)) : zY υ ws k n pc lv st := by
  subst hq; intro H locs hP hD hS ls hl; exact lv_iconst C.1 C.2.1 hdg hv (kk H locs hP hD hS ls hl)
theorem y_bipush (C : yV υ own cc nL rt) {i : Int} {v : Int32} (hdg : decode cc pc = .ok (.bipush i, 2)) (hv : (Int8.ofInt i).toInt32 = v) (hq : pc + 2 = q) (kk : zY υ ws k n q lv (.int v :: st)) : zY υ ws k n pc lv st := by
  subst hq; intro H locs hP hD hS ls hl; exact lv_bipush C.1 C.2.1 hdg hv (kk H locs hP hD hS ls hl)
theorem y_sipush (C : yV υ own cc nL rt) {i : Int} {v : Int32} (hdg : decode cc pc = .ok (.sipush i, 3)) (hv : (Int16.ofInt i).toInt32 = v) (hq : pc + 3 = q) (kk : zY υ ws k n q lv (.int v :: st)) : zY υ ws k n pc lv st := by
  subst hq; intro H locs hP hD hS ls hl; exact lv_sipush C.1 C.2.1 hdg hv (kk H locs hP hD hS ls hl)
theorem y_aload_n (C : yV υ own cc nL rt) {i : Fin 4} {j x : Nat} (hdg : decode cc pc = .ok (.aload_n i, 1)) (p : Nat) (hl : lv[p]? = some (j, .ref x)) (hi : (i : Nat) = j) (hq : pc + 1 = q) (kk : zY υ ws k n q lv (.ref x :: st)) : zY υ ws k n pc lv st := by
  subst hq; intro H locs hP hD hS ls h1; exact lv_aload_n C.1 C.2.1 hdg hi (lv_at h1 p hl) (kk H locs hP hD hS ls h1)
theorem y_iload_n (C : yV υ own cc nL rt) {i : Fin 4} {j : Nat} {x : Int32} (hdg : decode cc pc = .ok (.iload_n i, 1)) (p : Nat) (hl : lv[p]? = some (j, .int x)) (hi : (i : Nat) = j) (hq : pc + 1 = q) (kk : zY υ ws k n q lv (.int x :: st)) : zY υ ws k n pc lv st := by
  subst hq; intro H locs hP hD hS ls h1; exact lv_iload_n C.1 C.2.1 hdg hi (lv_at h1 p hl) (kk H locs hP hD hS ls h1)
theorem y_iload (C : yV υ own cc nL rt) {j : Nat} {x : Int32} (hdg : decode cc pc = .ok (.iload j, 2)) (p : Nat) (hl : lv[p]? = some (j, .int x)) (hq : pc + 2 = q) (kk : zY υ ws k n q lv (.int x :: st)) : zY υ ws k n pc lv st := by
  subst hq; intro H locs hP hD hS ls h1; exact lv_iload C.1 C.2.1 hdg (lv_at h1 p hl) (kk H locs hP hD hS ls h1)
theorem y_dup (C : yV υ own cc nL rt) {v : Value} (hdg : decode cc pc = .ok (.dup, 1)) (hc : v.category = 1) (hq : pc + 1 = q) (kk : zY υ ws k n q lv (v :: v :: st)) : zY υ ws k n pc lv (v :: st) := by
  subst hq; intro H locs hP hD hS ls hl; exact lv_dup C.1 C.2.1 hdg hc (kk H locs hP hD hS ls hl)
theorem y_objInit (C : yV υ own cc nL rt) {a idx : Nat} (hw : Cond.methodLink own idx objectInit ∈ lw_tbl) (hf : 1 ≤ (yR υ).frames ∧ 20 ≤ (yR υ).locals) (hc : (st.map fun v => v.category).sum ≤ 8) (hdg : decode cc pc = .ok (.invokespecial idx, 3)) (hq : pc + 3 = q) (kk : zY υ ws k n q lv st) : zY υ ws k n pc lv (.ref a :: st) := by
  subst hq; intro H locs hP hD hS ls hl
  exact W.objInit C.1 C.2.1 C.2.2.2.1 (C.2.2.2.2.1 _ (z_in hw rfl)) (C.2.2.2.2.1 _ (z_in q_31 rfl)) (C.2.2.2.2.1 _ (z_in q_32 rfl)) rfl hl.1 rfl hdg hf.1 (by show 2 * 0 + _ + 12 ≤ _; omega) (kk H locs hP hD hS ls hl)
/-- a new int array: all its arrays are of one class -/
theorem y_newa (C : yV υ own cc nL rt) {i : Int32} {N : Nat} (hn : ¬ i < 0) (hN : i.toNatClampNeg = N) (hb : N * 4 ≤ 536870912) (hk : k + 1 ≤ (yR υ).cells) (hs : n + N ≤ (yR υ).slots) (hdg : decode cc pc = .ok (.newarray .int, 2)) (hq : pc + 2 = q) (kk : ∀ z : Nat, zY υ (ws ++ [(z, .inl (ycy υ, N, .inl (fun _ => 0)))]) (k + 1) (n + N) q lv (.ref z :: st)) : zY υ ws k n pc lv (.int i :: st) := by
  subst hq; intro H locs hP hD hS ls hl
  refine va_newa (atype := .int) (ty := .int) (a0 := (N, .inl (fun _ => 0))) C.1 C.2.1 (C.2.2.2.2.1 _ (z_in q_59 rfl)) rfl C.2.2.2.2.2.1 hP hD hS C.2.2.2.2.2.2.1 (fun _ => rfl) hn hN hb hk hs hdg (fun z cA H1 hK1 hP1 hD1 hS1 => ?_)
  have h1 := (hK1.2 1 (cA, .int) rfl).2
  have h2 := (hK1.2 0 (ycy υ, .int) rfl).2
  have e : cA = ycy υ := Option.some.inj ((show (ys υ).vm.findClass _ = some cA from h1).symm.trans (show (ys υ).vm.findClass _ = some (ycy υ) from h2))
  subst e
  exact kk z H1 locs hP1 hD1 hS1 ls hl
theorem y_putF {ci : Nat} {Cn : String} {T : u_T} {N : Nat} {ty : Nat → FieldType} (C : yV υ own cc nL rt) (cl : zCl ci Cn T N ty) {a j idx : Nat} {v : Value} {fs : List Value} {ws' : va_W} (he : ws[0]? = some (a, .inr (ci, fs))) (hj : j < N) (hl0 : j < fs.length) (hw : Cond.fieldLink own idx Cn (T j).2.1 (T j).2.2.1 ∈ lw_tbl) (hsame : (T j).1 = Cn) (hfin : (T j).2.2.2 = true) (hi : (yme υ).name = "<init>") (hown : Cn = own) (hn : narrow (ty j) v = v) (hfit : fits (ty j) v = true) (hws : ws.set 0 (a, .inr (ci, fs.set j v)) = ws') (hdg : decode cc pc = .ok (.putfield idx, 3)) (hq : pc + 3 = q) (kk : zY υ ws' k n q lv st) : zY υ ws k n pc lv (v :: .ref a :: st) := by
  subst hq; subst hws
  intro H locs hP hD hS ls hl
  obtain ⟨c1, c2, c3, c4, c5, c6⟩ := cl
  exact va_putF (D := yD υ) (ref := Cn) C.1 C.2.1 C.2.2.2.2.1 c2 ty c5 c6 C.2.2.2.1 C.2.2.2.2.2.1 hP hD hS 0 he c1 j hj (C.2.2.2.2.1 _ (z_in hw rfl)) (fun x hx => by rw [hsame] at hx; exact hx) hfin hi (hsame.trans hown) (c5 j hj) hn hfit hl0 hdg (fun H1 locs1 hP1 hD1 hS1 => kk H1 locs1 hP1 hD1 hS1 ls hl)
theorem y_putf {ci : Nat} {Cn : String} {T : u_T} {N : Nat} {ty : Nat → FieldType} (C : yV υ own cc nL rt) (cl : zCl ci Cn T N ty) {a j idx : Nat} {v : Value} {fs : List Value} {ws' : va_W} (he : ws[0]? = some (a, .inr (ci, fs))) (hj : j < N) (hl0 : j < fs.length) (hw : Cond.fieldLink own idx Cn (T j).2.1 (T j).2.2.1 ∈ lw_tbl) (hsame : (T j).1 = Cn) (hfin : (T j).2.2.2 = false) (hn : narrow (ty j) v = v) (hfit : fits (ty j) v = true) (hws : ws.set 0 (a, .inr (ci, fs.set j v)) = ws') (hdg : decode cc pc = .ok (.putfield idx, 3)) (hq : pc + 3 = q) (kk : zY υ ws' k n q lv st) : zY υ ws k n pc lv (v :: .ref a :: st) := by
  subst hq; subst hws
  intro H locs hP hD hS ls hl
  obtain ⟨c1, c2, c3, c4, c5, c6⟩ := cl
  exact va_put (D := yD υ) (ref := Cn) C.1 C.2.1 C.2.2.2.2.1 c2 ty c5 c6 C.2.2.2.1 C.2.2.2.2.2.1 hP hD hS 0 he c1 j hj (C.2.2.2.2.1 _ (z_in hw rfl)) (fun x hx => by rw [hsame] at hx; exact hx) hfin (c5 j hj) hn hfit hl0 hdg (fun H1 locs1 hP1 hD1 hS1 => kk H1 locs1 hP1 hD1 hS1 ls hl)
theorem y_new {ci idx : Nat} {Cn : String} {T : u_T} {N : Nat} {ty : Nat → FieldType} (C : yV υ own cc nL rt) (cl : zCl ci Cn T N ty) {fs : List Value} (hfs : ∀ j, j < N → defaultValue (ty j) = vp_V fs j) (h1 : Cond.classLink own idx Cn ∈ lw_tbl) (h2 : Cond.instantiable Cn N ∈ lw_tbl) (h3 : Cond.initialized Cn ∈ lw_tbl) (hk : k + 1 ≤ (yR υ).cells) (hs : n + N ≤ (yR υ).slots) (hdg : decode cc pc = .ok (.new idx, 3)) (hq : pc + 3 = q) (kk : ∀ z : Nat, zY υ (ws ++ [(z, .inr (ci, fs))]) (k + 1) (n + N) q lv (.ref z :: st)) : zY υ ws k n pc lv st := by
  subst hq; intro H locs hP hD hS ls hl
  obtain ⟨c1, c2, c3, c4, c5, c6⟩ := cl
  exact va_new C.1 C.2.1 C.2.2.2.2.1 c2 ty c5 C.2.2.2.1 (C.2.2.2.2.1 _ (z_in h1 rfl)) (C.2.2.2.2.1 _ (z_in h2 rfl)) (C.2.2.2.2.1 _ (z_in h3 rfl)) C.2.2.2.2.2.1 hP hD hS C.2.2.2.2.2.2.1 c1 hfs hk hs hdg (fun z H1 hP1 hD1 hS1 => kk z H1 locs hP1 hD1 hS1 ls hl)
end YR
/-- a constructor's contract: the new cell alone comes in; a world that PW describes comes out -/
def kPc (D : va_G) (cy : ClassId) (sz : Nat) (av : List Value) (ws0 : va_W) : Array Value → State → Prop := fun v U => v = av.toArray ∧ U.heap.size = sz ∧ va_P D vwCl ws0 U.heap ∧ va_D (fun _ => True) ws0 ∧ va_K D vwCl [(cy, .int)] U ∧ ∀ w ∈ zNe, va_Nw w U
def kQc (D : va_G) (sz : Nat) (ws0 : va_W) (PW : va_W → Prop) : Array Value → State → Outcome → State → Prop := fun _ st o t => o = .returned none ∧ (∃ w, PW w ∧ va_P D vwCl w t.heap ∧ va_D (va_A ws0 sz) w) ∧ va_F (va_A ws0 sz) st t
def kMet (l : Launch) (y : MethodName) (b : ByteArray) (nl : Nat) (rm : Room) (D : va_G) (cy : ClassId) (av : List Value) (ws0 : va_W) (PW : va_W → Prop) : Prop :=
  ∀ sz, Met l y (Cond.code y b nl none :: zTb') rm (kPc D cy sz av ws0) (kQc D sz ws0 PW) rm.cells rm.slots (va_A ws0 sz)
theorem k_met {l : Launch} {y : MethodName} {b : ByteArray} {nl : Nat} {rm : Room} {D : va_G} {cy : ClassId} {av : List Value} {ws0 : va_W} {PW : va_W → Prop} (hy : plainFor y = true) (hlen : (lg_sl av).length ≤ nl)
    (body : ∀ υ : zU, yl υ = l → yR υ = rm → yD υ = D → ycy υ = cy → (yme υ).name = y.name → yV υ y.cls b nl none →
      (∀ (w : va_W) (pc : Nat) (lv : List (Nat × Value)), PW w → decode b pc = .ok (.return_, 1) → zY υ w rm.cells rm.slots pc lv []) → zY υ ws0 0 0 0 (lv_args 0 av) []) : kMet l y b nl rm D cy av ws0 PW := by
  intro sz
  refine zofW (cc := b) (maxL := nl) (ret := none) hy rfl ?_
  intro p e s m args below meth c s₁ B hml hv
  obtain ⟨rfl, rfl, hP, hD0, hK, hNe⟩ := hv
  have hts := atoms_spec (ws := Cond.code y b nl none :: zTb') B.pre
  have hown : s.vm.findClass y.cls = some m.cls := findClass_of_methodNamed B.named
  have C : yV (p, l, e, rm, s, m, av.toArray, below, meth, c, D, cy, va_A ws0 s.heap.size, MQ below (kQc D s.heap.size ws0 PW) av.toArray s rm.cells rm.slots (va_A ws0 s.heap.size)) y.cls b nl none :=
    ⟨B.exec, B.bytes, hml, hown, fun w hw => hts w (List.mem_cons_of_mem _ hw), hK, fun q h => Or.inr h, B.notSynchronized, B.returns, hNe⟩
  have hZ := body (p, l, e, rm, s, m, av.toArray, below, meth, c, D, cy, va_A ws0 s.heap.size, MQ below (kQc D s.heap.size ws0 PW) av.toArray s rm.cells rm.slots (va_A ws0 s.heap.size)) rfl rfl rfl rfl
    (name_of_methodNamed B.named B.method).1 C (fun w pc lv hw hdg H locs hP1 hD1 hS1 ls hl => ?_)
  · have hl := lv_entry av (n := nl) hlen
    rw [lg_entry_eq]
    refine hZ s.heap [] hP hD0.self va_S.rf _ ?_
    show lv_has _ c.maxLocals _
    rw [hml]
    exact hl
  · exact W.vret B.exec B.bytes B.returns (fun t ht hW => ⟨rfl, ⟨w, hw, by rw [ht]; exact hP1, hD1⟩, hS1.F ht⟩) hS1.2.2 hdg B.notSynchronized

theorem kPc_blind {D : va_G} {cy : ClassId} {sz : Nat} {av : List Value} {ws0 : va_W} : FrameBlind (kPc D cy sz av ws0) := by
  intro a U g mk q
  obtain ⟨q0, q1, q2, q3, q4, q5⟩ := q
  exact ⟨q0, q1, q2, q3, va_K.moved (u := U) (U := U.calling g mk a) (Vm.Alike.refl U.vm) q4, fun w hw => zNe_same (u := U) (U := U.calling g mk a) hw rfl (q5 w hw)⟩
def zYI (y : MethodName) (b : ByteArray) (nl : Nat) (k : Nat) : Prop := zYo y b nl none k ∧ Cond.instanceMethod y ∈ lw_tbl ∧ y.name = "<init>"
theorem zYI_alike {u U : State} (h : u.WarmedH U.vm) : u.vm.Alike U.vm := h.alike
section YC
variable {υ : zU} {own : String} {cc : ByteArray} {nL : Nat} {rt : Option FieldType} {k n pc q : Nat} {lv lv' : List (Nat × Value)} {rest : List Value}
variable {y : MethodName} {b : ByteArray} {nl idx z : Nat} {av : List Value} {rm : Room} {e0 : va_E} {pre : va_W} {PW : va_W → Prop}
theorem y_join (C : yV υ own cc nL rt) {H H1 : Heap} {locs L : List Loc} {w : va_W} (hP : va_P (yD υ) vwCl (pre ++ [(z, e0)]) H) (hD : va_D (yA υ) (pre ++ [(z, e0)])) (hS : va_S (yA υ) (ys υ).heap H locs)
    (h1 : H.size ≤ H1.size) (h2 : ∀ x : Nat, x < H.size → ¬ va_A [(z, e0)] H.size x → H1[x]? = H[x]?) (hL : ∀ x ∈ L, va_A [(z, e0)] H.size x.base) (hPw : va_P (yD υ) vwCl w H1) (hDw : va_D (va_A [(z, e0)] H.size) w) :
    va_P (yD υ) vwCl (pre ++ w) H1 ∧ va_D (yA υ) (pre ++ w) ∧ va_S (yA υ) (ys υ).heap H1 (locs ++ L) := by
  have hz : (pre ++ [(z, e0)])[pre.length]? = some (z, e0) := by simp
  have hpre : ∀ (j : Nat) (x : Nat × va_E), pre[j]? = some x → (pre ++ [(z, e0)])[j]? = some x := fun j x hx => by
    rw [List.getElem?_append_left (List.getElem?_eq_some_iff.mp hx).1]; exact hx
  have hA : ∀ x, va_A [(z, e0)] H.size x → yA υ x := by
    intro x hx
    rcases hx with ⟨j, e, hj⟩ | hx
    · have : j = 0 := by
        have := (List.getElem?_eq_some_iff.mp hj).1
        simpa using this
      subst this
      cases hj
      exact hD.2 _ _ hz
    · exact C.2.2.2.2.2.2.1 x (Nat.le_trans hS.1 hx)
  have hap : ∀ (j : Nat) (x : Nat × va_E), pre[j]? = some x → x.1 < H.size ∧ ¬ va_A [(z, e0)] H.size x.1 := by
    intro j x hx
    have hl := (hP j x (hpre j x hx)).lt
    refine ⟨hl, fun h => ?_⟩
    rcases h with ⟨i, e, hi⟩ | h
    · have : i = 0 := by
        have := (List.getElem?_eq_some_iff.mp hi).1
        simpa using this
      subst this
      have hzx : z = x.1 := congrArg Prod.fst (Option.some.inj hi)
      have := hD.1 j pre.length x (z, e0) (hpre j x hx) hz hzx.symm
      have h3 := (List.getElem?_eq_some_iff.mp hx).1
      omega
    · omega
  refine ⟨va_P.app (fun j x hx => (hP j x (hpre j x hx)).kept (h2 x.1 (hap j x hx).1 (hap j x hx).2)) hPw, va_D.app ⟨fun i j p q hp hq e => hD.1 i j p q (hpre i p hp) (hpre j q hq) e, fun j x hx => hD.2 j x (hpre j x hx)⟩ (hDw.weaken (fun j x _ h => hA x.1 h)) (fun i j x y hx hy hxy => (hap i x hx).2 (by rw [hxy]; exact hDw.2 j y hy)), ⟨Nat.le_trans hS.1 h1, fun x g1 g2 => ?_, fun x hx => ?_⟩⟩
  · rw [h2 x (Nat.lt_of_lt_of_le g1 hS.1) (fun g3 => g2 (hA x g3))]
    exact hS.2.1 x g1 g2
  · rcases List.mem_append.mp hx with g | g
    · exact hS.2.2 x g
    · exact hA _ (hL x g)
theorem y_pre (C : yV υ own cc nL rt) {H : Heap} {locs : List Loc} (hP : va_P (yD υ) vwCl (pre ++ [(z, e0)]) H) (hS : va_S (yA υ) (ys υ).heap H locs) : ∀ U : State, U.heap = H → (ys υ).WarmedH U.vm → kPc (yD υ) (ycy υ) H.size av [(z, e0)] av.toArray U := by
  intro U hU hW
  subst hU
  have hz : (pre ++ [(z, e0)])[pre.length]? = some (z, e0) := by simp
  refine ⟨rfl, rfl, fun j x hx => ?_, ⟨fun i j p q hp hq e => ?_, fun _ _ _ => trivial⟩, va_K.moved hW.alike C.2.2.2.2.2.1, fun w hw => zNe_warm hw hW (C.2.2.2.2.2.2.2.2.2 w hw)⟩
  · have : j = 0 := by
      have := (List.getElem?_eq_some_iff.mp hx).1
      simpa using this
    subst this
    cases hx
    exact hP _ _ hz
  · have h1 := (List.getElem?_eq_some_iff.mp hp).1
    have h2 := (List.getElem?_eq_some_iff.mp hq).1
    simp at h1 h2
    omega
theorem y_after (C : yV υ own cc nL rt) {H : Heap} {locs : List Loc} {mc ms : Nat} {st0 : List Value} {ls : Array Slot} {a : Array Value} (hP : va_P (yD υ) vwCl (pre ++ [(z, e0)]) H) (hD : va_D (yA υ) (pre ++ [(z, e0)])) (hS : va_S (yA υ) (ys υ).heap H locs) (hl : lv_has ls (yc υ).maxLocals lv)
    (hr : va_Run (yp υ) (yl υ) (ye υ) (yR υ) (ys υ) (ym υ) (yar υ) (ybe υ) (yme υ) (yc υ) H locs k n mc ms (F0 (ym υ) pc ls st0) rest (kQc (yD υ) H.size [(z, e0)] PW a) (va_A [(z, e0)] H.size))
    (kk : ∀ w, PW w → zY υ (pre ++ w) (k + mc) (n + ms) (pc + 3) lv rest) : W (yp υ) (yl υ) (ye υ) (yR υ) (ys υ) (ym υ) (yar υ) (ybe υ) (yme υ) (yc υ) H locs k n (yQ υ) (F0 (ym υ) pc ls st0) := by
  intro T hT X
  obtain ⟨v, st₀, t, T', L, h0, X', hL, e1, e2, ⟨hv, ⟨w, hw, hPw, hDw⟩, hF⟩, stp⟩ := hr T hT X
  cases hv
  rw [← e1] at hPw
  obtain ⟨g1, g2, g3⟩ := y_join C (H1 := T'.heap) hP hD hS (by rw [e1, ← h0]; exact hF.1) (fun x x1 x2 => by rw [e1, hF.2 x (by rw [h0]; exact x1) x2, h0]) hL hPw hDw
  obtain ⟨t2, a1, b1⟩ := kk w hw T'.heap (locs ++ L) g1 g2 g3 ls hl T' rfl X'
  exact ⟨t2, stp t2 a1, b1⟩
theorem y_callI {stk : List Value} (C : yV υ own cc nL rt) (hM : kMet (yl υ) y b nl rm (yD υ) (ycy υ) (.ref z :: av) [(z, e0)] PW) (hY : zYI y b nl av.length) (hR : rm.frames + 1 ≤ (yR υ).frames ∧ 8 + (nl + 11) + rm.locals ≤ (yR υ).locals) (hc : k + rm.cells ≤ (yR υ).cells ∧ n + rm.slots ≤ (yR υ).slots) (hw : Cond.methodLink own idx y ∈ lw_tbl) (hca : (rest.map fun v => v.category).sum ≤ 8) (hdg : decode cc pc = .ok (.invokespecial idx, 3)) (hs : stk = av.reverse ++ .ref z :: rest) (hq : pc + 3 = q) (kk : ∀ w, PW w → zY υ (pre ++ w) (k + rm.cells) (n + rm.slots) q lv rest) : zY υ (pre ++ [(z, e0)]) k n pc lv stk := by
  subst hq; subst hs
  intro H locs hP hD hS ls hl
  have hts := C.2.2.2.2.1
  obtain ⟨⟨y1, y2, y3, y4⟩, y5, y6⟩ := hY
  exact y_after C hP hD hS hl (va_runI (own := own) (Ts := zTb') ⟨C.1, C.2.1, C.2.2.1, C.2.2.2.1, hts⟩ (hM H.size) (cwI _ hts (z_good y1) rfl rfl rfl (hts _ (z_in y2 rfl)) (hts _ (z_in hw rfl)) (hts _ (z_in y5 rfl)) y6 y3 hR) ⟨kPc_blind, y_pre C hP hS⟩ rfl rfl (hl.1.trans C.2.2.1) rfl (lv_room hca) hdg hc) kk
theorem y_callIN {host : String} {stk : List Value} (C : yV υ own cc nL rt) (hM : kMet (yl υ) y b nl rm (yD υ) (ycy υ) (.ref z :: av) [(z, e0)] PW) (hY : zYI y b nl av.length) (hR : rm.frames + 1 ≤ (yR υ).frames ∧ 8 + (nl + 11) + rm.locals ≤ (yR υ).locals) (hc : k + rm.cells ≤ (yR υ).cells ∧ n + rm.slots ≤ (yR υ).slots) (hw : Cond.methodLinkNest own idx y host ∈ lw_tbl) (hca : (rest.map fun v => v.category).sum ≤ 8) (hdg : decode cc pc = .ok (.invokespecial idx, 3)) (hs : stk = av.reverse ++ .ref z :: rest) (hq : pc + 3 = q) (kk : ∀ w, PW w → zY υ (pre ++ w) (k + rm.cells) (n + rm.slots) q lv rest) : zY υ (pre ++ [(z, e0)]) k n pc lv stk := by
  subst hq; subst hs
  intro H locs hP hD hS ls hl
  have hts := C.2.2.2.2.1
  obtain ⟨⟨y1, y2, y3, y4⟩, y5, y6⟩ := hY
  exact y_after C hP hD hS hl (va_runIN (own := own) (Ts := zTb') ⟨C.1, C.2.1, C.2.2.1, C.2.2.2.1, hts⟩ (hM H.size) ⟨va_cnB _ hts (z_good y1) rfl rfl rfl (C.2.2.2.2.2.2.2.2.2 _ (z_inN hw rfl)) (hts _ (z_in y2 rfl)) y3 hR, y6, hts _ (z_in y5 rfl)⟩ ⟨kPc_blind, y_pre C hP hS⟩ rfl rfl (hl.1.trans C.2.2.1) rfl (lv_room hca) hdg hc) kk
end YC
