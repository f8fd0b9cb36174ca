theorem first_core {N : Nat} (hN : 8 ≤ N) {h : zH} (C : RHc h) (K : RDk h) (P : RPar (h 17 1) (fun r => h 66 (3 * r)) (h 30) (h 69)) (Q : RQue (h 17 1) (h 30) (h 69)) (hout : ∀ p : Nat, p < 6 → -1 ≤ h 30 (36 + p) ∧ h 30 (36 + p) < 1000) (ht : ∀ p : Nat, p < 6 → zw (h 69 (7 * p + 2)) = h 69 (7 * p + 2)) {d : Int} (hd : 0 ≤ d ∧ d < 8) : ∃ x, fX8_first N 7 d h = some x ∧ fX11_firstAt N d h = some x := by
  obtain ⟨⟨c1, c2, c3⟩, b1, b2, b3⟩ := C
  obtain ⟨n, hn⟩ := Int.eq_ofNat_of_zero_le b1.1
  obtain ⟨k, hk⟩ := Int.eq_ofNat_of_zero_le Q.1.1
  rw [hn] at P Q
  have hkn : k ≤ n := by have := Q.1.2; omega
  have hA : ∀ p : Nat, p < n → fX11_isAt (p : Int) d h = some (if h 30 (36 + p) = d then 1 else 0) := fun p hp => isAt_eq (by omega) P (by omega) rfl hd (fun r hr => by have := K r hr; omega)
  obtain ⟨x, ex, hx⟩ := firstX hN hk (by omega) (fun i hi => by obtain ⟨a1, a2, -, -⟩ := Q.2.1 i (by omega); omega) (fun p hp => zw_id (by have := hout p hp; omega)) (show zw d = d from zw_id (by omega))
  obtain ⟨y, ey, hy⟩ := firstM hN (show h 14 28 = (n : Int) by rw [← c1]; exact hn) (by omega) hA (fun p hp => ht p (by omega))
  have inq : ∀ p : Nat, p < n → h 30 (36 + p) = d → ∃ i : Nat, i < k ∧ h 30 (42 + i) = (p : Int) := by
    intro p hp hpd
    obtain ⟨-, ⟨w1, w2, w3⟩, -, -, -, -, s1⟩ := P p (by omega)
    have hw : h 69 (7 * p + 1) ≠ -1 := fun e => by
      rw [s1, if_pos (by rw [w1]; exact e)] at hpd
      omega
    obtain ⟨i, hi, he⟩ := Q.2.2.2 p (by omega) hw
    exact ⟨i, by omega, he⟩
  refine ⟨x, ex, ?_⟩
  rw [ey]
  congr 1
  rcases hy with ⟨rfl, hyn⟩ | ⟨p, hp, rfl, hpd, hpm⟩
  · rcases hx with ⟨rfl, -⟩ | ⟨i, hi, rfl, hid, -⟩
    · rfl
    · obtain ⟨a1, a2, -, -⟩ := Q.2.1 i (by omega)
      exact absurd hid (hyn _ (by omega))
  · obtain ⟨j, hj, hje⟩ := inq p hp hpd
    rcases hx with ⟨rfl, hxn⟩ | ⟨i, hi, rfl, hid, him⟩
    · exact absurd (by rw [hje, Int.toNat_natCast]; exact hpd) (hxn j hj)
    · obtain ⟨a1, a2, -, -⟩ := Q.2.1 i (by omega)
      have h1 := hpm _ (show (h 30 (42 + i)).toNat < n by omega) hid
      have h2 : ¬ j < i := fun hji => him j hji (by rw [hje, Int.toNat_natCast]; exact hpd)
      by_cases hij : i = j
      · subst hij; exact hje.symm
      · have h3 := Q.2.2.1 i j (by omega) (by omega)
        rw [hje, Int.toNat_natCast] at h3
        omega
