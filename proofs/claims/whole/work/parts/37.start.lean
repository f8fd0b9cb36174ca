/-! THE CLAIM OUT OF ONE WALK OF THE LAW'S BODY. Your part is whole_start (and what it stands on); all else here is the same for every law, but numbers. -/
def R_law : String := "SunDeskLaw"
def lw_P (b : Addr) (xs : List Int32) (args : Array Value) (s : State) : Prop := args = #[.ref b] ∧ s.IntsAt b xs ∧ xs.length ≤ 3072 ∧ (Jvm.Cond.and given_1 narrow_1).before args s = true
def lw_Q (_ : Array Value) (s : State) (o : Outcome) (t : State) : Prop := o = .returned (some (.int 1)) ∧ Framed s o t [] 601024 7293034
def lw_Z (below : List Frame) (a : Array Value) (s : State) : State → Prop := fun t => ∃ o, t.status = .running ∧ Ended t below o ∧ lw_Q a s o t
/-- the law's own end, with 1 on the stack, nothing written that was there before, its room as the claim has it -/
theorem lw_ret {p : Program} {l : Launch} {e : Env} {s : State} {m : MethodId} {below : List Frame} {meth : Method} {c : Code} {b : Nat} (hx : p.tables.exec = Jvm.exec) (hb : c.code = code) (hr : meth.sig.returnType = ret) (hlocks : meth.locks = false) {pc : Nat} {H : Heap} {ls : Array Slot} (hdg : decode code pc = .ok (.ireturn, 1)) : W p l e room_1 s m #[Value.ref b] below meth c H [] 601024 7293034 (lw_Z below #[Value.ref b] s) (F0 m pc ls [.int 1]) := by
  intro T hT X
  obtain ⟨fs, hret, hrun, hended, hW, hframe⟩ := X.leave (v := some (.int 1)) (hlocks := hlocks) (fun h => by rw [hr] at h; cases h)
  have hmeth' : T.vm.method? m = some meth := X.method'
  refine ⟨T.setFrames fs, ?_, .returned (some (.int 1)), hrun, hended, rfl, ⟨_, rfl⟩, hW, hframe⟩
  jvm_step X.here [X.here.top, hx, hb, hdg, hmeth', hr, ret, narrow_b1]
  (try refine ⟨rfl, ?_⟩); (try refine ⟨rfl, ?_⟩)
  first | (intro acts; rw [hret _ acts rfl rfl rfl]) | rw [hret _ _ rfl rfl rfl]
  exact Steps.refl _
/-- what holds at the law's entry: the machine, the code, the tables' words (any of lw_tbl by 'hts w (by decide +kernel)'), the script of L ints xs at the cell b, what the Statement gives of the start (any of its parts by flat_of_before) -/
def lw_At (p : Program) (s : State) (m : MethodId) (meth : Method) (c : Code) (b L : Nat) (xs : Nat → Int32) : Prop :=
  p.tables.exec = Jvm.exec ∧ c.code = code ∧ meth.sig.returnType = ret ∧ c.maxLocals = 7 ∧ s.vm.findClass R_law = some m.cls ∧ (∀ w ∈ lw_tbl, w.before #[Value.ref b] s = true) ∧ va_X b L xs s s.heap ∧ b < s.heap.size ∧ meth.locks = false ∧ (Jvm.Cond.and given_1 narrow_1).before #[Value.ref b] s = true
theorem y_newl {υ : zU} {own : String} {cc : ByteArray} {nL : Nat} {rt : Option FieldType} {ws : va_W} {k n pc q : Nat} {lv : List (Nat × Value)} {st : List Value} (C : yV υ own cc nL rt) {i : Int32} {N : Nat} (hn : ¬ i < 0) (hN : i.toNatClampNeg = N) (hb : N * 8 ≤ 536870912) (hk : k + 1 ≤ (yR υ).cells) (hs : n + N ≤ (yR υ).slots) (hdg : decode cc pc = .ok (.newarray .long, 2)) (hq : pc + 2 = q) (kk : ∀ (z : Nat) (cL : ClassId), va_K (yD υ) vwCl [(ycy υ, .int), (cL, .long)] (ys υ) → zY υ (ws ++ [(z, .inl (cL, N, .inr (.inl (fun _ => 0))))]) (k + 1) (n + N) q lv (.ref z :: st)) : zY υ ws k n pc lv (.int i :: st) := by
  subst hq; intro H locs hP hD hS ls hl
  refine va_newa (atype := .long) (ty := .long) (a0 := (N, .inr (.inl (fun _ => 0)))) C.1 C.2.1 (C.2.2.2.2.1 _ (z_in q_1760 rfl)) rfl C.2.2.2.2.2.1 hP hD hS C.2.2.2.2.2.2.1 (fun _ => rfl) hn hN hb hk hs hdg (fun z cA H1 hK1 hP1 hD1 hS1 => ?_)
  exact kk z cA hK1 H1 locs hP1 hD1 hS1 ls hl
def lwEnv (υ : zU) (b0 L : Nat) (cL : ClassId) (xs : Nat → Int32) : Prop := yV υ RL code 7 ret ∧ (∃ σ : zSg, zG σ (yA υ) (ys υ) (ys υ).heap) ∧ yR υ = room_1 ∧ va_K (yD υ) vwCl [(ycy υ, .int), (cL, .long)] (ys υ) ∧ (yl υ).flags = flags0 ∧ va_X b0 L xs (ys υ) (ys υ).heap ∧ b0 < (ys υ).heap.size ∧ ¬ yA υ b0 ∧ L ≤ 3072 ∧ ∀ i, i < 3 → vx_Zq (zZq i).1 (zZq i).2.1 (zZq i).2.2 (yA υ) (ys υ) (ys υ).heap
theorem lwS_rf {A : Nat → Prop} {H : Heap} : va_S A H H [] := ⟨Nat.le_refl _, fun _ _ _ => rfl, fun _ h => absurd h List.not_mem_nil⟩
set_option maxRecDepth 100000 in
set_option maxHeartbeats 4000000 in
theorem lw_start {N : Nat} {R : Nat → Nat → zH → Prop} (S : ∀ nn, zSall N (R nn)) (HM : ∀ nn c h, R nn c h → R nn (c + 1) h) (HR0 : R 76 0 zh0) (P5 : ∀ (υ : zU) (b0 L oa : Nat) (cL : ClassId) (xs : Nat → Int32), lwEnv υ b0 L cL xs → lwC υ R b0 L oa cL 377) (P27 : ∀ (υ : zU) (b0 L oa : Nat) (cL : ClassId) (xs : Nat → Int32), lwEnv υ b0 L cL xs → lwC υ R b0 L oa cL 1098)
    {p : Program} {e : Env} {s : State} {m : MethodId} {below : List Frame} {meth : Method} {c : Code} (l : Launch) (hflags : l.flags = flags0) {b L : Nat} {xs : Nat → Int32} (hL : L ≤ 3072) (C0 : lw_At p s m meth c b L xs) : W p l e room_1 s m #[Value.ref b] below meth c s.heap [] 0 0 (lw_Z below #[Value.ref b] s) (entryFrame m ([Value.ref b] : List Value).toArray 7) := by
  obtain ⟨hx, hb, hr, hml, hown, hts, hX, hbl, hlocks, hgv⟩ := C0
  have hA : ∀ a : Nat, a < s.heap.size → ¬ (fun q : Nat => s.heap.size ≤ q) a := fun a h => Nat.not_le.mpr h
  obtain ⟨σ, hG⟩ := lw_zG (A := fun q : Nat => s.heap.size ≤ q) hA hts hgv
  obtain ⟨D, cy, hK⟩ := lw_K hts
  have hl := lv_entry ([.ref b]) (n := 7) (Nat.le_of_ble_eq_true rfl)
  rw [lg_entry_eq]
  have C : yV (p, l, e, room_1, s, m, #[Value.ref b], below, meth, c, D, cy, (fun q : Nat => s.heap.size ≤ q), lw_Z below #[Value.ref b] s) RL code 7 ret :=
    ⟨hx, hb, hml, hown, fun w hw => hts w (List.mem_filter.mp hw).1, hK, fun q h => h, hlocks, hr, hG.2.2.2.2.2⟩
  have main : zY (p, l, e, room_1, s, m, #[Value.ref b], below, meth, c, D, cy, (fun q : Nat => s.heap.size ≤ q), lw_Z below #[Value.ref b] s) [] 0 0 0 [(0, .ref b)] [] := by
    have hend : ∀ (ws : va_W) (k n : Nat) (lv : List (Nat × Value)), k ≤ 601024 → n ≤ 7293034 → zY (p, l, e, room_1, s, m, #[Value.ref b], below, meth, c, D, cy, (fun q : Nat => s.heap.size ≤ q), lw_Z below #[Value.ref b] s) ws k n 1366 lv [] := by
      intro ws k n lv hk hn H locs hP hD hS ls hl
      refine lv_iconst (v := 1) hx hb dL_law_1366 (by decide) ?_
      refine va_forget (fun q hq => hS.2.2 q hq) ?_
      refine W.widen (k := 601024) (n := 7293034) hk hn ?_
      exact lw_ret hx hb hr hlocks dL_law_1367
    refine y_new (q := 3) C clX10 (fs := [.null, .null, .null, .null, .null, .null, .null, .null, .null, .null, .null, .null, .null, .int 0, .int 0, .long 0]) (by exact (by decide : ∀ j, j < 16 → defaultValue (tyX10 j) = vp_V [.null, .null, .null, .null, .null, .null, .null, .null, .null, .null, .null, .null, .null, .int 0, .int 0, .long 0] j)) q_25 q_26 q_1 (Nat.le_of_ble_eq_true rfl) (Nat.le_of_ble_eq_true rfl) dL_law_0 rfl (fun a => ?_)
    refine y_dup (q := 4) C dL_law_3 rfl rfl ?_
    refine y_callI (q := 7) (av := []) (rest := [.ref a]) C kc10 mI_X10_init ⟨Nat.le_of_ble_eq_true rfl, Nat.le_of_ble_eq_true rfl⟩ ⟨Nat.le_of_ble_eq_true rfl, Nat.le_of_ble_eq_true rfl⟩ q_27 (Nat.le_of_ble_eq_true rfl) dL_law_4 rfl rfl (fun w10 h10 => ?_)
    refine y_astore_n (q := 8) (lv' := [(1, .ref a), (0, .ref b)]) C dL_law_7 (by decide) rfl rfl rfl ?_
    refine y_new (q := 11) C clX11 (fs := [.int 0, .null, .int 0, .int 0, .int 0, .int 0, .null, .null, .null, .null, .null, .null, .null, .int 0, .int 0, .null, .null, .null, .null, .null, .null, .int 0, .int 0, .int 0, .null, .null, .null, .null, .int 0, .int 0, .int 0, .null, .null, .int 0, .null, .int 0, .int 0, .null, .int 0, .null, .int 0, .int 0, .int 0, .null, .null, .null, .int 0, .long 0, .null, .int 0]) (by exact (by decide : ∀ j, j < 50 → defaultValue (tyX11 j) = vp_V [.int 0, .null, .int 0, .int 0, .int 0, .int 0, .null, .null, .null, .null, .null, .null, .null, .int 0, .int 0, .null, .null, .null, .null, .null, .null, .int 0, .int 0, .int 0, .null, .null, .null, .null, .int 0, .int 0, .int 0, .null, .null, .int 0, .null, .int 0, .int 0, .null, .int 0, .null, .int 0, .int 0, .int 0, .null, .null, .null, .int 0, .long 0, .null, .int 0] j)) q_1096 q_1097 q_13 (Nat.le_of_ble_eq_true rfl) (Nat.le_of_ble_eq_true rfl) dL_law_8 rfl (fun y => ?_)
    refine y_dup (q := 12) C dL_law_11 rfl rfl ?_
    refine y_callI (q := 15) (av := []) (rest := [.ref y]) C kc11 mI_X11_init ⟨Nat.le_of_ble_eq_true rfl, Nat.le_of_ble_eq_true rfl⟩ ⟨Nat.le_of_ble_eq_true rfl, Nat.le_of_ble_eq_true rfl⟩ q_1098 (Nat.le_of_ble_eq_true rfl) dL_law_12 rfl rfl (fun w11 h11 => ?_)
    obtain ⟨α, ha, hy, hw⟩ := lw_world h10 h11
    subst ha hy
    rw [hw]
    refine y_astore_n (q := 16) (lv' := [(2, .ref (α 14)), (1, .ref (α 0)), (0, .ref b)]) C dL_law_15 (by decide) rfl rfl rfl ?_
    refine y_iconst (q := 17) (v := 1) C dL_law_16 (by decide) rfl ?_
    refine y_newl (q := 19) (N := 1) C (by decide) (by decide) (by decide) (Nat.le_of_ble_eq_true rfl) (Nat.le_of_ble_eq_true rfl) dL_law_17 rfl (fun oa cL hKL => ?_)
    refine lw_first ?_
    refine y_astore_n (q := 20) (lv' := [(3, .ref oa), (2, .ref (α 14)), (1, .ref (α 0)), (0, .ref b)]) C dL_law_19 (by decide) rfl rfl rfl ?_
    refine y_iconst (q := 21) (v := zi ((6 * 0 : Nat) : Int)) C dL_law_20 (by decide) rfl ?_
    refine y_istore (q := 23) (lv' := [(4, .int (zi ((6 * 0 : Nat) : Int))), (3, .ref oa), (2, .ref (α 14)), (1, .ref (α 0)), (0, .ref b)]) C dL_law_21 (by decide) rfl rfl ?_
    refine y_sub ?_ [4, 3, 2, 1, 0] rfl
    have E : lwEnv (p, l, e, room_1, s, m, #[Value.ref b], below, meth, c, D, cy, (fun q : Nat => s.heap.size ≤ q), lw_Z below #[Value.ref b] s) b L cL xs := ⟨C, ⟨σ, hG⟩, rfl, hKL, hflags, hX, hbl, hA b hbl, hL, fun i hi => vx_Zqof (hts _ (lw_zq1 i hi)) (hts _ (lw_zq2 i hi)) (flat_of_before _ hgv _ (lw_zq3 i hi)) hA⟩
    exact lw_loop C hG rfl hX hbl (hA b hbl) hL S HM (P5 _ b L oa cL xs E) (P27 _ b L oa cL xs E) hend 513 0 α 76 _ _ zh0 (fun _ => 0) rfl ⟨by decide, by decide⟩ HR0 (Nat.le_of_ble_eq_true rfl) (Nat.le_of_ble_eq_true rfl)
  have hP0 : va_P D vwCl [] s.heap := fun k q h => by simp at h
  have hD0 : va_D (fun q : Nat => s.heap.size ≤ q) [] := ⟨fun i j p q h => by simp at h, fun k q h => by simp at h⟩
  refine main s.heap [] hP0 hD0 lwS_rf _ ?_
  show lv_has _ c.maxLocals _
  rw [hml]
  exact hl
