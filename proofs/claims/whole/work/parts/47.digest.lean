/-! What a minute was worth, and the digests. -/
theorem sumF_b {C n : Nat} {z : Nat → Int32} (hC : C ≤ 6000) (h : rOK C n z) : ∀ i : Nat, i ≤ n → bt (sumF z 5 i) 0 (600 * C * i) ∧ (sumF z 5 i).toInt ≤ (sumF z 7 i).toInt ∧ 10 * (sumF z 7 i).toInt ≤ 19 * (sumF z 5 i).toInt
  | 0, _ => ⟨⟨Int.le_refl _, by show (0 : Int) ≤ _; omega⟩, Int.le_refl _, by show 10 * (0 : Int) ≤ 19 * 0; omega⟩
  | i + 1, hi => by
    obtain ⟨a, b, c⟩ := sumF_b hC h i (by omega)
    have hn := h.1
    obtain ⟨m1, m2, m3, m4, m5, m6⟩ := h.2.2.2.2.2.2.2 i (by omega)
    have l1 : 600 * (C : Int) * (i : Int) ≤ 600 * 6000 * 8 := by
      have p : (C : Int) * (i : Int) ≤ 6000 * 8 := Int.mul_le_mul (by omega) (by omega) (by omega) (by omega)
      rw [Int.mul_assoc]; omega
    have l2 : 600 * (C : Int) * ((i + 1 : Nat) : Int) = 600 * (C : Int) * (i : Int) + 600 * (C : Int) := by
      rw [Int.natCast_add, Int.mul_add]; omega
    rw [sumF, sumF]
    have e5 : (sumF z 5 i + z (14 + 16 * i + 5)).toInt = (sumF z 5 i).toInt + (z (14 + 16 * i + 5)).toInt := t_add (by omega) (by omega)
    have e7 : (sumF z 7 i + z (14 + 16 * i + 7)).toInt = (sumF z 7 i).toInt + (z (14 + 16 * i + 7)).toInt := t_add (by omega) (by omega)
    unfold bt
    rw [e5, e7, l2]
    omega
theorem vom_b {C n : Nat} {z : Nat → Int32} (hC : C ≤ 6000) (h : rOK C n z) : 4607182418800017408 ≤ (vomP z n).toNat ∧ (vomP z n).toNat ≤ 4611686018427387904 := by
  obtain ⟨a, b, c⟩ := sumF_b hC h n (Nat.le_refl _)
  unfold vomP
  by_cases e : sumF z 5 n = 0
  · rw [if_pos e]; decide
  · rw [if_neg e]
    have h0 : (0 : Int32).toInt = 0 := by decide
    have : ¬ (sumF z 5 n).toInt = 0 := fun q => e (Int32.toInt_inj.mp (q.trans h0.symm))
    exact fq_worth (by omega) b (by omega)
theorem vom_n {C n : Nat} {z : Nat → Int32} (_hC : C ≤ 6000) (_h : rOK C n z) : vf_n64 (vomP z n) := by
  unfold vomP
  by_cases e : sumF z 5 n = 0
  · rw [if_pos e]; unfold vf_n64; decide
  · rw [if_neg e]; exact fp_quot e
theorem dgM_c {z A B Cc A2 B2 C2 : Nat → Int32} {h : Int64} {n : Nat} (hA : ∀ i, i < n → A i = A2 i) (hB : ∀ i, i < n → B i = B2 i) (hC : ∀ i, i < n → Cc i = C2 i) : ∀ i : Nat, i ≤ n → dgM z A B Cc h i = dgM z A2 B2 C2 h i
  | 0, _ => rfl
  | i + 1, hi => by rw [dgM, dgM, dgM_c hA hB hC i (by omega), hA i (by omega), hB i (by omega), hC i (by omega)]
theorem lg_ok {C n : Nat} {z : Nat → Int32} (hC : C ≤ 6000) (h : rOK C n z) {g t k : Nat} (hg : g < 8) (ht : t < 8) (hk : k < 5) : lgM z g t k 600 = lngP z g t k := by
  obtain ⟨s0, s1, s3, s4, s11⟩ := h.2.2.2.2.2.2.1
  have m := h.2.2.2.2.2.2.2 g hg
  have b := (h.2.2.2.2.2.2.2 t ht).2.1
  exact lng_eq (m.1 k hk).1 s0.1 s0.2 (by omega) (by omega)
theorem ch_ok {C n : Nat} {z : Nat → Int32} (h : rOK C n z) {t k : Nat} {mn : Int32} (ht : t < n) (hk : k < 5) (hm : bt mn 0 600) : chG z n t k mn n = chM z t k mn n :=
  ch_eq h.1 ht (fun i hi => ((h.2.2.2.2.2.2.2 i hi).1 k hk).1) hm.1 hm.2 n (Nat.le_refl _)
theorem dg_eq {C n kp nb : Nat} {z tx : Nat → Int32} (hC : C ≤ 6000) (h : rOK C n z) : dgT z (cA z) (cBc z n) (cCc z) n kp (bwP (vomP z n)) tx nb = dgT z (mA z) (mB z n) (mC z n) n kp (vomP z n).toInt64 tx nb := by
  have hn := h.1
  obtain ⟨b1, b2⟩ := vom_b hC h
  unfold dgT dgS
  rw [bwP_eq b1 b2, dgM_c (A2 := mA z) (B2 := mB z n) (C2 := mC z n) (fun i hi => (lg_ok hC h (by omega) (by omega) (by omega)).symm) (fun i hi => ch_ok h hi (by omega) (by unfold bt; decide)) (fun i hi => (fd_eq hC h hi 10).symm) n (Nat.le_refl _)]
