theorem count_core {h : zH} (C : RHc h) (T : RT h) (E : RE h) (V : RV h) (H : h 30 48 = h 69 42) (O : h 6 0 = h 14 33) (S : h 13 0 = h 14 46) (A : h 10 0 = h 14 38) (L : RLog (h 30) (h 31) (h 69)) {a : Int} : fX11_count a h = fX10_count a h := by
  obtain ⟨⟨c1, c2, c3⟩, -⟩ := C
  have eL : fX8_logLength 7 h = h 69 44 := by
    show fJ9_min_7cf53 (h 30 50) 60 = _
    rw [min_eq (zw_id (by have := L.1; omega)) zw_60, L.2.1]
  have eH : fX8_hour 7 h = h 69 42 := H
  have m1 : fX1_many 2 1 h = h 17 1 := many_eq 1 (by decide)
  have m2 : fX1_many 2 2 h = h 17 2 := many_eq 2 (by decide)
  have m3 : fX1_many 2 3 h = h 17 3 := many_eq 3 (by decide)
  unfold fX11_count fX10_count
  rw [m1, m2, m3, c1, c2, c3, V.1, O, T.1, V.2.2.1, eH, E.1, S, eL, A]
