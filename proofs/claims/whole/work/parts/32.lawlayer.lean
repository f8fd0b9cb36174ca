/-! the law's rows -/
theorem vaD_map {A : Nat → Prop} {ws ws' : va_W} (hD : va_D A ws) (e : ws'.map Prod.fst = ws.map Prod.fst) : va_D A ws' := by
  have key : ∀ (i : Nat) (p : Nat × va_E), ws'[i]? = some p → ∃ p' : Nat × va_E, ws[i]? = some p' ∧ p'.1 = p.1 := by
    intro i p hp
    have h1 : (ws'.map Prod.fst)[i]? = some p.1 := by rw [List.getElem?_map, hp]; rfl
    rw [e, List.getElem?_map] at h1
    cases hw : ws[i]? with
    | none => rw [hw] at h1; cases h1
    | some p' => rw [hw] at h1; exact ⟨p', rfl, Option.some.inj h1⟩
  refine ⟨fun i j p q hp hq hpq => ?_, fun k q hq => ?_⟩
  · obtain ⟨p', h1, h2⟩ := key i p hp
    obtain ⟨q', h3, h4⟩ := key j q hq
    exact hD.1 i j p' q' h1 h3 (by rw [h2, h4]; exact hpq)
  · obtain ⟨q', h3, h4⟩ := key k q hq
    rw [← h4]
    exact hD.2 k q' h3
theorem zws_fst {cy : ClassId} {α : Nat → Nat} {n : Nat} {h : zH} : (zws cy α n h).map Prod.fst = (List.range n).map α := by
  unfold zws; rw [List.map_map]; rfl
theorem zws_len {cy : ClassId} {α : Nat → Nat} {n : Nat} {h : zH} : (zws cy α n h).length = n := by simp [zws]
section YL
variable {υ : zU} {own : String} {cc : ByteArray} {nL : Nat} {rt : Option FieldType} {ws ex : va_W} {k n pc q tgt : Nat} {lv lv' : List (Nat × Value)} {st rest stk stk2 : List Value} {off : Int}
variable {α : Nat → Nat} {nn : Nat} {h h' : zH} {σ : zSg}
theorem yz_P {H : Heap} (hP : va_P (yD υ) vwCl (zws (ycy υ) α nn h ++ ex) H) : va_P (yD υ) vwCl (zws (ycy υ) α nn h) H ∧ va_P (yD υ) vwCl ex H := by
  refine ⟨fun j x hx => hP j x ?_, fun j x hx => hP (nn + j) x ?_⟩
  · rw [List.getElem?_append_left (List.getElem?_eq_some_iff.mp hx).1]; exact hx
  · rw [List.getElem?_append_right (by rw [zws_len]; omega), zws_len, Nat.add_sub_cancel_left]; exact hx
theorem yz_J (hD : va_D (yA υ) (zws (ycy υ) α nn h ++ ex)) : zJ α nn := by
  intro i j hi hj e
  have g : ∀ i, i < nn → (zws (ycy υ) α nn h ++ ex)[i]? = some (α i, zent (ycy υ) α nn i (h i)) := fun i hi => by
    rw [List.getElem?_append_left (by rw [zws_len]; exact hi), zws_get hi]
  exact hD.1 i j _ _ (g i hi) (g j hj) e
theorem yz_A (hD : va_D (yA υ) (zws (ycy υ) α nn h ++ ex)) {i : Nat} (hi : i < nn) : yA υ (α i) := by
  have g : (zws (ycy υ) α nn h ++ ex)[i]? = some (α i, zent (ycy υ) α nn i (h i)) := by
    rw [List.getElem?_append_left (by rw [zws_len]; exact hi), zws_get hi]
  exact hD.2 i _ g
theorem yz_ex (hD : va_D (yA υ) (zws (ycy υ) α nn h ++ ex)) {j : Nat} {x : Nat × va_E} (hx : ex[j]? = some x) : ∀ i, i < nn → x.1 ≠ α i := by
  intro i hi e
  have g : (zws (ycy υ) α nn h ++ ex)[i]? = some (α i, zent (ycy υ) α nn i (h i)) := by
    rw [List.getElem?_append_left (by rw [zws_len]; exact hi), zws_get hi]
  have g2 : (zws (ycy υ) α nn h ++ ex)[nn + j]? = some x := by
    rw [List.getElem?_append_right (by rw [zws_len]; omega), zws_len, Nat.add_sub_cancel_left]; exact hx
  have := hD.1 (nn + j) i _ _ g2 g e
  omega
theorem yz_A1 (C : yV υ own cc nL rt) (hD : va_D (yA υ) (zws (ycy υ) α nn h ++ ex)) {H : Heap} {locs : List Loc} (hS : va_S (yA υ) (ys υ).heap H locs) : ∀ x : Nat, zA α nn H.size x → yA υ x := by
  intro x hx
  rcases hx with ⟨i, hi, rfl⟩ | hx
  · exact yz_A hD hi
  · exact C.2.2.2.2.2.2.1 x (Nat.le_trans hS.1 hx)
theorem yz_pre (C : yV υ own cc nL rt) (hG : zG σ (yA υ) (ys υ) (ys υ).heap) (hn : zN ≤ nn ∧ nn ≤ zN + 1) {av : List Value} {H : Heap} {locs : List Loc} (hP : va_P (yD υ) vwCl (zws (ycy υ) α nn h ++ ex) H) (hD : va_D (yA υ) (zws (ycy υ) α nn h ++ ex)) (hS : va_S (yA υ) (ys υ).heap H locs) : ∀ U : State, U.heap = H → (ys υ).WarmedH U.vm → zPc (yD υ) (ycy υ) α nn σ H.size av h av.toArray U := by
  intro U hU hW
  subst hU
  exact ⟨rfl, rfl, (yz_P hP).1, va_K.moved hW.alike C.2.2.2.2.2.1, yz_J hD, hn, ((hG.kept (fun a h1 h2 => hS.2.1 a h1 h2)).narrow (yz_A1 C hD hS)).warm hW⟩
variable {y : MethodName} {b : ByteArray} {nl idx d : Nat} {rt2 : Option FieldType} {av : List Value} {rv : Option Value}
theorem y_callV {o ci : Nat} {T : u_T} {N : Nat} {ty : Nat → FieldType} (C : yV υ own cc nL rt) (hG : zG σ (yA υ) (ys υ) (ys υ).heap) (hn : zN ≤ nn ∧ nn ≤ zN + 1) (cl : zCl ci y.cls T N ty) (ho : o < zN) (hd : zkd o = ci) (hM : zMet (yl υ) y b nl rt2 (zrm d) (yD υ) (ycy υ) α nn σ (.ref (α o) :: av) h rv h') (hY : zYV y b nl rt2 av.length) (hR : d + 1 ≤ (yR υ).frames ∧ 40 * d + 40 ≤ (yR υ).locals) (hk : k ≤ (yR υ).cells ∧ n ≤ (yR υ).slots) (hw : Cond.methodLink own idx y ∈ lw_tbl) (hc : (rest.map fun v => v.category).sum ≤ 8) (hdg : decode cc pc = .ok (.invokevirtual idx, 3)) (hs : stk = av.reverse ++ .ref (α o) :: rest) (hq : pc + 3 = q) (hs2 : stk2 = rv.toList ++ rest) (kk : zY υ (zws (ycy υ) α nn h' ++ ex) k n q lv stk2) : zY υ (zws (ycy υ) α nn h ++ ex) k n pc lv stk := by
  subst hq; subst hs; subst hs2
  intro H locs hP hD hS ls hl
  have hts := C.2.2.2.2.1
  obtain ⟨⟨y1, y2, y3, y4⟩, y5, y6⟩ := hY
  have hon : o < nn := Nat.lt_of_lt_of_le ho hn.1
  have hr := va_runV (own := own) (cells := k) (slots := n) (locs := locs) (Ts := zTb') (C := y.cls) (p := yp υ) (e := ye υ) (below := ybe υ) (meth := yme υ) (g := F0 (ym υ) pc ls (av.reverse ++ .ref (α o) :: rest)) ⟨C.1, C.2.1, C.2.2.1, C.2.2.2.1, hts⟩ (hM H.size) ⟨callB_of (R := yR υ) _ hts (z_good y1) rfl rfl rfl (hts _ (z_in y2 rfl)) (hts _ (z_in hw rfl)) y3 ⟨hR.1, by show 8 + (nl + 11) + 40 * d ≤ _; omega⟩, hts _ (z_in y5 rfl), hts _ (z_in y6 rfl)⟩ ⟨zPc_blind, va_recv C.2.2.2.2.2.1 (yz_P hP).1 (ci := ci) (q0 := o) cl.1 (by rw [zws_get hon, zent_o hd cl.2.2.2.1 cl.2.2.1]), yz_pre C hG hn hP hD hS⟩ rfl rfl (hl.1.trans C.2.2.1) rfl (lv_room hc) hdg hk
  intro T0 hT X
  obtain ⟨v, st₀, t, T', L, h0, X', hL, e1, e2, ⟨hv, hP1, hF1⟩, stp⟩ := hr T0 hT X
  cases hv
  rw [← e1] at hP1
  have hA1 := yz_A1 C hD hS
  have hkeep : ∀ x : Nat, x < H.size → ¬ zA α nn H.size x → T'.heap[x]? = H[x]? := fun x g1 g2 => by rw [e1, hF1.2 x (by rw [h0]; exact g1) g2, h0]
  have hS1 : va_S (yA υ) (ys υ).heap T'.heap (locs ++ L) := by
    refine ⟨Nat.le_trans hS.1 (by rw [e1, ← h0]; exact hF1.1), fun x g1 g2 => ?_, fun x hx => ?_⟩
    · rw [hkeep x (Nat.lt_of_lt_of_le g1 hS.1) (fun g3 => g2 (hA1 x g3))]
      exact hS.2.1 x g1 g2
    · rcases List.mem_append.mp hx with g | g
      · exact hS.2.2 x g
      · exact hA1 _ (hL x g)
  have hP2 : va_P (yD υ) vwCl (zws (ycy υ) α nn h' ++ ex) T'.heap := va_P.app hP1 (fun j x hx => ((yz_P hP).2 j x hx).kept (hkeep x.1 ((yz_P hP).2 j x hx).lt (fun g => by
    rcases g with ⟨i, hi, g⟩ | g
    · exact yz_ex hD hx i hi g
    · have := ((yz_P hP).2 j x hx).lt
      omega)))
  have hD2 : va_D (yA υ) (zws (ycy υ) α nn h' ++ ex) := vaD_map hD (by rw [List.map_append, List.map_append, zws_fst, zws_fst])
  obtain ⟨t2, a1, b1⟩ := kk T'.heap (locs ++ L) hP2 hD2 hS1 ls hl T' rfl X'
  exact ⟨t2, stp t2 a1, b1⟩
theorem y_sld (C : yV υ own cc nL rt) {b0 L j : Nat} {xs : Nat → Int32} {e : Int} (hX : va_X b0 L xs (ys υ) (ys υ).heap) (hbl : b0 < (ys υ).heap.size) (hbA : ¬ yA υ b0) (hj : zw e = (j : Int)) (hjL : j < L) (hdg : decode cc pc = .ok (.iaload, 1)) (hq : pc + 1 = q) (kk : zY υ ws k n q lv (.int (zi (xs j).toInt) :: st)) : zY υ ws k n pc lv (.int (zi e) :: .ref b0 :: st) := by
  subst hq; intro H locs hP hD hS ls hl
  have e1 : xs (zi e).toNatClampNeg = zi (xs j).toInt := by rw [zi_nat, hj, Int.toNat_natCast]; exact (zi_toInt _).symm
  have hin : vp_in (zi e) L := z_vpin (by omega) (by omega)
  exact va_sld C.1 C.2.1 hX hbl hbA hS hin hdg (by rw [e1]; exact kk H locs hP hD hS ls hl)
theorem y_slen (C : yV υ own cc nL rt) {b0 L : Nat} {xs : Nat → Int32} (hX : va_X b0 L xs (ys υ) (ys υ).heap) (hbl : b0 < (ys υ).heap.size) (hbA : ¬ yA υ b0) (hdg : decode cc pc = .ok (.arraylength, 1)) (hq : pc + 1 = q) (kk : zY υ ws k n q lv (.int (zi (L : Int)) :: st)) : zY υ ws k n pc lv (.ref b0 :: st) := by
  subst hq; intro H locs hP hD hS ls hl
  exact va_slen C.1 C.2.1 hX hbl hbA hS hdg (by
    have e1 : nI L = zi (L : Int) := zi_ofNat L
    first | (rw [e1]; exact kk H locs hP hD hS ls hl) | (rw [zi_ofNat]; exact kk H locs hP hD hS ls hl))
theorem y_iadd (C : yV υ own cc nL rt) {a c : Int} (hdg : decode cc pc = .ok (.iadd, 1)) (hq : pc + 1 = q) (kk : zY υ ws k n q lv (.int (zi (a + c)) :: st)) : zY υ ws k n pc lv (.int (zi c) :: .int (zi a) :: st) := by
  subst hq; intro H locs hP hD hS ls hl; exact lv_iadd C.1 C.2.1 hdg (by rw [zi_add]; exact kk H locs hP hD hS ls hl)
theorem y_isub (C : yV υ own cc nL rt) {a c : Int} (hdg : decode cc pc = .ok (.isub, 1)) (hq : pc + 1 = q) (kk : zY υ ws k n q lv (.int (zi (a - c)) :: st)) : zY υ ws k n pc lv (.int (zi c) :: .int (zi a) :: st) := by
  subst hq; intro H locs hP hD hS ls hl; exact lv_isub C.1 C.2.1 hdg (by rw [zi_sub]; exact kk H locs hP hD hS ls hl)
theorem y_iand (C : yV υ own cc nL rt) {a c : Int} (hdg : decode cc pc = .ok (.iand, 1)) (hq : pc + 1 = q) (kk : zY υ ws k n q lv (.int (zi (zand a c)) :: st)) : zY υ ws k n pc lv (.int (zi c) :: .int (zi a) :: st) := by
  subst hq; intro H locs hP hD hS ls hl; exact lv_iand C.1 C.2.1 hdg (by rw [← zi_toInt (zi a &&& zi c)]; exact kk H locs hP hD hS ls hl)
theorem y_istore (C : yV υ own cc nL rt) {i : Nat} {x : Int32} (hdg : decode cc pc = .ok (.istore i, 2)) (hi : i < nL) (hl0 : (i, Value.int x) :: lv.filter (fun q => !(q.1 == i) && !(q.1 + 1 == i && q.2.category == 2)) = lv') (hq : pc + 2 = q) (kk : zY υ ws k n q lv' st) : zY υ ws k n pc lv (.int x :: st) := by
  subst hq; intro H locs hP hD hS ls h1; exact lv_istore C.1 C.2.1 hdg h1 (by rw [C.2.2.1]; exact hi) hl0 (fun ls h2 => kk H locs hP hD hS ls h2)
theorem y_astore_n (C : yV υ own cc nL rt) {p : Fin 4} {i x : Nat} (hdg : decode cc pc = .ok (.astore_n p, 1)) (hi : i < nL) (hl0 : (i, Value.ref x) :: lv.filter (fun q => !(q.1 == i) && !(q.1 + 1 == i && q.2.category == 2)) = lv') (hp : (p : Nat) = i) (hq : pc + 1 = q) (kk : zY υ ws k n q lv' st) : zY υ ws k n pc lv (.ref x :: st) := by
  subst hq; intro H locs hP hD hS ls h1; exact lv_astore_n C.1 C.2.1 hdg hp h1 (by rw [C.2.2.1]; exact hi) hl0 (fun ls h2 => kk H locs hP hD hS ls h2)
theorem y_iinc (C : yV υ own cc nL rt) {i j : Nat} {x c : Int} (hdg : decode cc pc = .ok (.iinc i c, 3)) (hk : lv[j]? = some (i, .int (zi x))) (hi : i < nL) (hl0 : (i, Value.int (zi (x + c))) :: lv.filter (fun q => !(q.1 == i) && !(q.1 + 1 == i && q.2.category == 2)) = lv') (hq : pc + 3 = q) (kk : zY υ ws k n q lv' st) : zY υ ws k n pc lv st := by
  subst hq; intro H locs hP hD hS ls h1; exact lv_iinc C.1 C.2.1 hdg h1 hk (zi_add x c) (by rw [C.2.2.1]; exact hi) hl0 (fun ls h2 => kk H locs hP hD hS ls h2)
theorem y_sub (kk : zY υ ws k n pc lv' st) (ks : List Nat) (hp : lv_pick lv ks = lv') : zY υ ws k n pc lv st := by
  intro H locs hP hD hS ls h1; exact kk H locs hP hD hS ls (lv_sub h1 ks hp)
theorem y_goto (C : yV υ own cc nL rt) (hdg : decode cc pc = .ok (.goto off, 3)) (hq : (pc : Int) + off = (q : Int)) (kk : zY υ ws k n q lv st) : zY υ ws k n pc lv st := by
  intro H locs hP hD hS ls hl; exact lv_goto C.1 C.2.1 hdg hq (kk H locs hP hD hS ls hl)
theorem y_icmp_gt (C : yV υ own cc nL rt) {a c : Int} (hdg : decode cc pc = .ok (.if_icmp .gt off, 3)) (ht : (pc : Int) + off = (tgt : Int)) (hq : pc + 3 = q) (kt : zw c < zw a → zY υ ws k n tgt lv st) (kf : ¬ zw c < zw a → zY υ ws k n q lv st) : zY υ ws k n pc lv (.int (zi c) :: .int (zi a) :: st) := by
  subst hq; intro H locs hP hD hS ls hl; exact lv_icmp_gt C.1 C.2.1 hdg ht (fun e => kt (zi_lt.mp e) H locs hP hD hS ls hl) (fun e => kf (fun d => e (zi_lt.mpr d)) H locs hP hD hS ls hl)
theorem y_icmp_eqT (C : yV υ own cc nL rt) {x z : Int32} (hxz : x = z) (hdg : decode cc pc = .ok (.if_icmp .eq off, 3)) (ht : (pc : Int) + off = (tgt : Int)) (kt : zY υ ws k n tgt lv st) : zY υ ws k n pc lv (.int z :: .int x :: st) := by
  intro H locs hP hD hS ls hl; exact lv_icmp_eq C.1 C.2.1 hdg ht (fun _ => kt H locs hP hD hS ls hl) (fun e => absurd hxz e)
theorem y_tableOut (C : yV υ own cc nL rt) {dflt lo hi : Int} {offs : Array Int} {len : Nat} {a : Int} (hdg : decode cc pc = .ok (.tableswitch dflt lo hi offs, len)) (hh : zw a < lo ∨ hi < zw a) (ht : (pc : Int) + dflt = (tgt : Int)) (kk : zY υ ws k n tgt lv st) : zY υ ws k n pc lv (.int (zi a) :: st) := by
  intro H locs hP hD hS ls hl; exact lv_tableOut C.1 C.2.1 hdg hh ht (kk H locs hP hD hS ls hl)
theorem y_tableIn (C : yV υ own cc nL rt) {dflt lo hi : Int} {offs : Array Int} {len : Nat} {a c : Int} (hc : zw a = c) (hdg : decode cc pc = .ok (.tableswitch dflt lo hi offs, len)) (h1 : ¬ c < lo) (h2 : ¬ hi < c) (ho : offs[(c - lo).toNat]? = some off) (ht : (pc : Int) + off = (tgt : Int)) (kk : zY υ ws k n tgt lv st) : zY υ ws k n pc lv (.int (zi a) :: st) := by
  subst hc; intro H locs hP hD hS ls hl; exact lv_tableIn C.1 C.2.1 hdg h1 h2 ho ht (kk H locs hP hD hS ls hl)
theorem y_i2l (C : yV υ own cc nL rt) {x : Int32} (hdg : decode cc pc = .ok (.i2l, 1)) (hq : pc + 1 = q) (kk : zY υ ws k n q lv (.long x.toInt64 :: st)) : zY υ ws k n pc lv (.int x :: st) := by
  subst hq; intro H locs hP hD hS ls hl; exact lv_i2l C.1 C.2.1 hdg rfl (kk H locs hP hD hS ls hl)
theorem y_lshl (C : yV υ own cc nL rt) {x : Int64} {z : Int32} (hdg : decode cc pc = .ok (.lshl, 1)) (hq : pc + 1 = q) (kk : zY υ ws k n q lv (.long (x <<< (z.toInt64 &&& 63)) :: st)) : zY υ ws k n pc lv (.int z :: .long x :: st) := by
  subst hq; intro H locs hP hD hS ls hl; exact lv_lshl C.1 C.2.1 hdg rfl (kk H locs hP hD hS ls hl)
theorem y_ldc2 (C : yV υ own cc nL rt) {v : Int64} (hw : Cond.constantLong own idx v ∈ lw_tbl) (hdg : decode cc pc = .ok (.ldc2_w idx, 3)) (hq : pc + 3 = q) (kk : zY υ ws k n q lv (.long v :: st)) : zY υ ws k n pc lv st := by
  subst hq; intro H locs hP hD hS ls hl; exact lv_ldc2 C.1 C.2.1 C.2.2.2.1 (C.2.2.2.2.1 _ (z_in hw rfl)) hdg (kk H locs hP hD hS ls hl)
theorem y_land (C : yV υ own cc nL rt) {x z : Int64} (hdg : decode cc pc = .ok (.land, 1)) (hq : pc + 1 = q) (kk : zY υ ws k n q lv (.long (x &&& z) :: st)) : zY υ ws k n pc lv (.long z :: .long x :: st) := by
  subst hq; intro H locs hP hD hS ls hl; exact lv_land C.1 C.2.1 hdg (kk H locs hP hD hS ls hl)
theorem y_lor (C : yV υ own cc nL rt) {x z : Int64} (hdg : decode cc pc = .ok (.lor, 1)) (hq : pc + 1 = q) (kk : zY υ ws k n q lv (.long (zl (x ||| z).toInt) :: st)) : zY υ ws k n pc lv (.long z :: .long x :: st) := by
  subst hq; intro H locs hP hD hS ls hl; exact lv_lor C.1 C.2.1 hdg (by rw [← zl_toInt (x ||| z)]; exact kk H locs hP hD hS ls hl)
end YL
