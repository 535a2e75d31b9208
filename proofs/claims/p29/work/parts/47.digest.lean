/-! What a minute was worth, and the digests. -/
theorem ch_ok {C n : Nat} {z : Nat → Int32} (h : rOK C n z) {t k : Nat} {mn : Int32} (ht : t < n) (hk : k < 5) (hm : bt mn 0 600) : chG z n t k mn n = chM z t k mn n :=
  ch_eq h.1 ht (fun i hi => ((h.2.2.2.2.2.2.2 i hi).1 k hk).1) hm.1 hm.2 n (Nat.le_refl _)
