theorem count_queue {n k : Nat} {dk rc m : Nat → Int} (P : RPar (n : Int) dk rc m) (Q : RQue (n : Int) rc m) (hk : rc 49 = (k : Int)) {d : Int} (hd : 0 ≤ d) : (List.range k).countP (fun i => decide (rc (36 + (rc (42 + i)).toNat) = d)) = (List.range n).countP (fun p => decide (rc (36 + p) = d)) := by
  have h1 := (queue_perm Q hk).countP_eq (fun p => decide (rc (36 + p) = d))
  rw [List.countP_map, List.countP_filter] at h1
  refine h1.trans (List.countP_congr (fun p hp => ?_))
  obtain ⟨-, ⟨w1, w2, w3⟩, -, -, -, -, s1⟩ := P p (by have := List.mem_range.mp hp; omega)
  rw [Bool.and_eq_true, decide_eq_true_iff, decide_eq_true_iff]
  constructor
  · exact fun h => h.1
  · intro h
    refine ⟨h, fun e => ?_⟩
    rw [s1, if_pos (by rw [w1]; exact e)] at h
    omega
/-- the desks of the papers are small numbers -/
abbrev RDk (h : zH) : Prop := ∀ r : Nat, r < 8 → 0 ≤ h 66 (3 * r) ∧ h 66 (3 * r) < 1000
theorem backlog_core {N : Nat} (hN : 8 ≤ N) {h : zH} (C : RHc h) (K : RDk h) (P : RPar (h 17 1) (fun r => h 66 (3 * r)) (h 30) (h 69)) (Q : RQue (h 17 1) (h 30) (h 69)) (hout : ∀ p : Nat, p < 6 → -1 ≤ h 30 (36 + p) ∧ h 30 (36 + p) < 1000) {d : Int} (hd : 0 ≤ d ∧ d < 8) : ∃ x, fX8_backlog N 7 d h = some x ∧ fX11_backlog N d h = some x := by
  obtain ⟨⟨c1, c2, c3⟩, b1, b2, b3⟩ := C
  obtain ⟨n, hn⟩ := Int.eq_ofNat_of_zero_le b1.1
  obtain ⟨k, hk⟩ := Int.eq_ofNat_of_zero_le Q.1.1
  rw [hn] at P Q
  have hkn : k ≤ n := by have := Q.1.2; omega
  refine ⟨_, backlogX hN hk (by omega) (fun i hi => ?_) (fun p hp => zw_id (by have := hout p hp; omega)) (zw_id (by omega)), ?_⟩
  · obtain ⟨a1, a2, -, -⟩ := Q.2.1 i (by omega)
    omega
  · rw [count_queue P Q hk hd.1]
    exact backlogM hN (by rw [← c1]; exact hn) (by omega) (fun p hp => isAt_eq (by omega) P (by omega) rfl hd (fun r hr => by have := K r hr; omega))
