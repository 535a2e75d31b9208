/-! Doubles: a FP.Core.quotient of two whole numbers, and its bits. -/
section FPX
theorem fq_ac1 (P B : Nat) : P * 2 * B = (2 * B) * P := by ac_rfl
theorem fq_ac2 (c X Y Z W : Nat) : c * X * Y * (Z * W) = (c * Z) * (X * Y * W) := by ac_rfl
theorem fq_ac3 (f Y Z W : Nat) : f * Y * (Z * W) = (f * W) * (Y * Z) := by ac_rfl
theorem fq_whole {A : Nat} (hA : 0 < A) {x : FP.Core.Datum} (h : FP.Core.Whole (A : Int) x) : ∃ c q, x = .fin false c q ∧ c * 2 ^ q.toNat = A * 2 ^ (-q).toNat := by
  cases x with
  | nan => exact h.elim
  | inf s => exact h.elim
  | fin s c q =>
    cases s with
    | false =>
      refine ⟨c, q, rfl, ?_⟩
      have h2 : ((c * 2 ^ q.toNat : Nat) : Int) = (A : Int) * ((2 ^ (-q).toNat : Nat) : Int) := h
      exact_mod_cast h2
    | true =>
      exfalso
      have h2 : -((c * 2 ^ q.toNat : Nat) : Int) = (A : Int) * ((2 ^ (-q).toNat : Nat) : Int) := h
      have h3 : 0 < A * 2 ^ (-q).toNat := Nat.mul_pos hA (Nat.two_pow_pos _)
      have h4 : (0 : Int) < (A : Int) * ((2 ^ (-q).toNat : Nat) : Int) := by exact_mod_cast h3
      omega
theorem fq_ratio {A B : Nat} (hA : 0 < A) (hB : 0 < B) {x y : FP.Core.Datum} (hx : FP.Core.Whole (A : Int) x) (hy : FP.Core.Whole (B : Int) y) : FP.Core.quotient FP.Core.b64 x y = FP.Core.roundRatio FP.Core.b64 false A B 0 := by
  obtain ⟨c, q, rfl, ex⟩ := fq_whole hA hx
  obtain ⟨d, r, rfl, ey⟩ := fq_whole hB hy
  have hd : d ≠ 0 := by
    intro e
    rw [e, Nat.zero_mul] at ey
    have := Nat.mul_pos hB (Nat.two_pow_pos (-r).toNat)
    omega
  show (if d = 0 then _ else FP.Core.roundRatio FP.Core.b64 (false != false) c d (q - r)) = _
  rw [if_neg hd]
  refine FP.Core.roundRatio_congr (by omega) hB ?_
  refine Nat.eq_of_mul_eq_mul_right (m := 2 ^ q.toNat * 2 ^ (-r).toNat) (Nat.mul_pos (Nat.two_pow_pos _) (Nat.two_pow_pos _)) ?_
  have hl : c * B * 2 ^ (q - r - 0).toNat * (2 ^ q.toNat * 2 ^ (-r).toNat) = (c * 2 ^ q.toNat) * (B * 2 ^ (-r).toNat) * 2 ^ (q - r - 0).toNat := by ac_rfl
  have hr : A * d * 2 ^ (0 - (q - r)).toNat * (2 ^ q.toNat * 2 ^ (-r).toNat) = A * d * 2 ^ ((0 - (q - r)).toNat + q.toNat + (-r).toNat) := by
    rw [Nat.pow_add, Nat.pow_add]; ac_rfl
  rw [hl, hr, ex, ← ey]
  have hm : A * 2 ^ (-q).toNat * (d * 2 ^ r.toNat) * 2 ^ (q - r - 0).toNat = A * d * 2 ^ ((-q).toNat + r.toNat + (q - r - 0).toNat) := by
    rw [Nat.pow_add, Nat.pow_add]; ac_rfl
  rw [hm, show (-q).toNat + r.toNat + (q - r - 0).toNat = (0 - (q - r)).toNat + q.toNat + (-r).toNat by omega]
theorem fp_quot2 {a b : Int32} (h : ¬ b = 0) : FP.Core.val64 (FP.Core.ddiv (FP.Core.i2d a) (FP.Core.i2d b)) ≠ .nan := by
  rw [FP.Core.val64_ddiv]
  have ha := FP.Core.i2d_int a
  have hb := FP.Core.i2d_int b
  unfold FP.Core.DInt at ha hb
  generalize FP.Core.val64 (FP.Core.i2d a) = x at ha ⊢
  generalize FP.Core.val64 (FP.Core.i2d b) = y at hb ⊢
  cases x with
  | nan => exact ha.elim
  | inf s => exact ha.elim
  | fin s c q =>
    cases y with
    | nan => exact hb.elim
    | inf s => exact hb.elim
    | fin t d r =>
      have hd : d ≠ 0 := by
        intro e
        subst e
        have h2 : FP.Core.signed t (0 * 2 ^ r.toNat) = b.toInt * ((2 ^ (-r).toNat : Nat) : Int) := hb
        rw [Nat.zero_mul, show FP.Core.signed t 0 = 0 by cases t <;> rfl] at h2
        have h3 := Int.mul_eq_zero.mp h2.symm
        rcases h3 with h3 | h3
        · exact h (Int32.toInt_inj.mp h3)
        · have := Nat.two_pow_pos (-r).toNat
          omega
      show (if d = 0 then _ else FP.Core.roundRatio FP.Core.b64 (s != t) c d (q - r)) ≠ .nan
      rw [if_neg hd]
      exact FP.Core.roundRatio_ne_nan _ _ _ _ _
theorem fq_bounds {A B : Nat} {d : UInt64} (hB : 0 < B) (h1 : B ≤ A) (h2 : A ≤ 2 * B) (hd : FP.Core.val64 d = FP.Core.roundRatio FP.Core.b64 false A B 0) : 4607182418800017408 ≤ d.toNat ∧ d.toNat ≤ 4611686018427387904 := by
  have hq : FP.Core.b64.qmin = -1074 := FP.Core.qmin_b64
  have u1 : FP.Core.unitsOf FP.Core.b64 4607182418800017408 = 2 ^ 1074 := by decide +kernel
  have u2 : FP.Core.unitsOf FP.Core.b64 4611686018427387904 = 2 ^ 1075 := by decide +kernel
  have hu : FP.Core.inUnits A 0 (-1074) = A * 2 ^ 1074 := rfl
  have l := FP.Core.mag_ge FP.Core.good_b64 (n := d.toNat) (m := 4607182418800017408) (e0 := -1074) hd hB (by rw [hq]; decide) (by decide) (by decide +kernel) (by
    rw [u1, hu, hq, show ((-1074 : Int) - -1074).toNat = 0 by decide, Nat.pow_zero, Nat.mul_one, Nat.mul_comm]
    exact Nat.mul_le_mul_right _ h1)
  have g := FP.Core.mag_le FP.Core.good_b64 (n := d.toNat) (m := 4611686018427387904) (e0 := -1074) hd hB (by rw [hq]; decide) (by decide) (by
    rw [u2, hu, hq, show ((-1074 : Int) - -1074).toNat = 0 by decide, Nat.pow_zero, Nat.mul_one, show (2 : Nat) ^ 1075 = 2 ^ 1074 * 2 from Nat.pow_succ 2 1074, fq_ac1]
    exact Nat.mul_le_mul_right _ h2)
  have hn : FP.Core.val64 d ≠ .nan := by rw [hd]; exact FP.Core.roundRatio_ne_nan _ _ _ _ _
  have hs := FP.Core.sgn_bits hn
  rw [hd, FP.Core.sgn_roundRatio] at hs
  have hs2 : ¬ 2 ^ 63 ≤ d.toNat := of_decide_eq_false hs.symm
  rw [FP.Core.mag_toNat64] at l g
  have e : d.toNat % 2 ^ 63 = d.toNat := Nat.mod_eq_of_lt (by omega)
  rw [e] at l g
  exact ⟨l, g⟩
/-- a double from 1 to 2 and the whole number of steps that it has above 1 -/
theorem fq_steps {d : UInt64} {f : Nat} (hf : f ≤ 4503599627370496) (hd : d.toNat = 4607182418800017408 + f) : ∃ c q, FP.Core.val64 d = .fin false c q ∧ -52 ≤ q ∧ c * 2 ^ (q + 52).toNat = 2 ^ 52 + f := by
  have hn : FP.Core.val64 d ≠ .nan := by rw [FP.Core.ne_nan, hd]; omega
  have hz := FP.Core.zmag_bits hn
  have hs := FP.Core.sgn_bits hn
  have hfit := FP.Core.val64_fits d
  have hu : FP.Core.unitsOf FP.Core.b64 (d.toNat % 2 ^ 63) = (2 ^ 52 + f) * 2 ^ 1022 := by
    rw [hd, Nat.mod_eq_of_lt (by omega)]
    have ht : FP.Core.b64.tails = 2 ^ 52 := by decide +kernel
    unfold FP.Core.unitsOf
    rw [ht, if_neg (by omega)]
    rcases Nat.lt_or_ge f 4503599627370496 with h | h
    · rw [show (4607182418800017408 + f) % 2 ^ 52 = f by omega, show (4607182418800017408 + f) / 2 ^ 52 - 1 = 1022 by omega]
    · have e : f = 4503599627370496 := by omega
      rw [e]; decide +kernel
  rw [hu] at hz
  generalize FP.Core.val64 d = x at hz hs hfit hn ⊢
  have hs2 : FP.Core.sgn x = false := by rw [hs]; exact decide_eq_false (by omega)
  cases x with
  | nan => exact absurd rfl hn
  | inf s =>
    exfalso
    have h2 : FP.Core.b64.tails * 2 ^ (FP.Core.b64.exps - 2) = (2 ^ 52 + f) * 2 ^ 1022 := hz
    have h3 : FP.Core.b64.tails * 2 ^ (FP.Core.b64.exps - 2) = 2 ^ 1076 * 2 ^ 1022 := by decide +kernel
    have h4 := Nat.eq_of_mul_eq_mul_right (Nat.two_pow_pos 1022) (h3.symm.trans h2)
    have h5 : (2 : Nat) ^ 54 ≤ 2 ^ 1076 := Nat.pow_le_pow_right (by decide) (by decide)
    omega
  | fin s c q =>
    have e : s = false := hs2
    subst e
    obtain ⟨hc, hq1, hq2, -⟩ := hfit
    rw [FP.Core.qmin_b64] at hq1
    have hz2 : c * 2 ^ (q - FP.Core.b64.qmin).toNat = (2 ^ 52 + f) * 2 ^ 1022 := hz
    rw [FP.Core.qmin_b64] at hz2
    have hq : -52 ≤ q := by
      rcases Int.lt_or_le q (-52) with h | h
      · exfalso
        have h1 : c * 2 ^ (q - -1074).toNat < 2 ^ 53 * 2 ^ 1021 := Nat.lt_of_lt_of_le (Nat.mul_lt_mul_of_pos_right (show c < 2 ^ 53 from hc) (Nat.two_pow_pos _)) (Nat.mul_le_mul_left _ (Nat.pow_le_pow_right (by decide) (by omega)))
        rw [hz2] at h1
        have h2 : (2 : Nat) ^ 53 * 2 ^ 1021 = 2 ^ 52 * 2 ^ 1022 := by decide +kernel
        rw [h2] at h1
        have := Nat.lt_of_mul_lt_mul_right h1
        omega
      · exact h
    refine ⟨c, q, rfl, hq, ?_⟩
    refine Nat.eq_of_mul_eq_mul_right (Nat.two_pow_pos 1022) ?_
    rw [Nat.mul_assoc, ← Nat.pow_add, show (q + 52).toNat + 1022 = (q - -1074).toNat by omega]
    exact hz2
theorem fq_sub {d : UInt64} {f : Nat} (hf : f ≤ 4503599627370496) (hd : d.toNat = 4607182418800017408 + f) : ∃ c q, FP.Core.val64 (FP.Core.dsub d FP.Core.dconst1) = .fin false c q ∧ -1074 ≤ q ∧ c * 2 ^ (q + 1074).toNat = f * 2 ^ 1022 := by
  obtain ⟨c, q, hv, hq, hc⟩ := fq_steps hf hd
  have e : FP.Core.exactSum (FP.Core.val64 d) (FP.Core.negate (FP.Core.val64 FP.Core.dconst1)) = .fin false f (-52) := by
    rw [hv, FP.Core.val64_dconst1]
    have hm : min q (-52) = -52 := by omega
    have hsu : FP.Core.sumUnits false c q true (2 ^ 52) (-52) (-52) = (f : Int) := by
      show ((c * 2 ^ (q - -52).toNat : Nat) : Int) + -((2 ^ 52 * 2 ^ ((-52 : Int) - -52).toNat : Nat) : Int) = f
      rw [show (q - -52).toNat = (q + 52).toNat by omega, hc]
      have : ((-52 : Int) - -52).toNat = 0 := by decide
      rw [this]
      omega
    show FP.Core.Datum.fin (FP.Core.sumSign false true (FP.Core.sumUnits false c q true (2 ^ 52) (-52) (min q (-52)))) (FP.Core.sumUnits false c q true (2 ^ 52) (-52) (min q (-52))).natAbs (min q (-52)) = _
    rw [hm, hsu]
    have h1 : FP.Core.sumSign false true (f : Int) = false := by
      unfold FP.Core.sumSign
      split
      · rfl
      · exact decide_eq_false (by omega)
    rw [h1]
    rfl
  obtain ⟨c2, q2, h1, h2⟩ := FP.Core.round_exact FP.Core.good_b64 false (c := f) (q := -52) (show f < 2 ^ 53 by omega) (by rw [FP.Core.qmin_b64]; decide) (by decide +kernel)
  have hr : FP.Core.val64 (FP.Core.dsub d FP.Core.dconst1) = .fin false c2 q2 := by rw [FP.Core.val64_dsub, e, h1]
  have hfit := FP.Core.val64_fits (FP.Core.dsub d FP.Core.dconst1)
  rw [hr] at hfit
  obtain ⟨-, hq1, -, -⟩ := hfit
  rw [FP.Core.qmin_b64] at hq1
  refine ⟨c2, q2, hr, hq1, ?_⟩
  have h3 : c2 * 2 ^ (q2 - FP.Core.b64.qmin).toNat = f * 2 ^ (-52 - FP.Core.b64.qmin).toNat := h2
  rw [FP.Core.qmin_b64] at h3
  rw [show (q2 + 1074).toNat = (q2 - -1074).toNat by omega, h3]
  rfl
theorem fq_mul {d : UInt64} {f : Nat} (hf : f ≤ 4503599627370496) (hd : d.toNat = 4607182418800017408 + f) : FP.Core.DInt (f : Int) (FP.Core.dmul (FP.Core.dsub d FP.Core.dconst1) 4841369599423283200) := by
  obtain ⟨c, q, hv, hq, hc⟩ := fq_sub hf hd
  have hk : FP.Core.val64 4841369599423283200 = .fin false (2 ^ 52) 0 := by decide +kernel
  unfold FP.Core.DInt
  rw [FP.Core.val64_dmul, hv, hk]
  refine FP.Core.whole_round FP.Core.good_b64 FP.Core.wide_b64 (show (f : Int).natAbs ≤ 2 ^ 53 by omega) ?_
  show ((c * 2 ^ 52 * 2 ^ (q + 0).toNat : Nat) : Int) = (f : Int) * ((2 ^ (-(q + 0)).toNat : Nat) : Int)
  have h : c * 2 ^ 52 * 2 ^ (q + 0).toNat = f * 2 ^ (-(q + 0)).toNat := by
    refine Nat.eq_of_mul_eq_mul_right (Nat.mul_pos (Nat.two_pow_pos (q + 1074).toNat) (Nat.two_pow_pos 1022)) ?_
    have hl : c * 2 ^ 52 * 2 ^ (q + 0).toNat * (2 ^ (q + 1074).toNat * 2 ^ 1022) = (c * 2 ^ (q + 1074).toNat) * (2 ^ 52 * 2 ^ (q + 0).toNat * 2 ^ 1022) := fq_ac2 _ _ _ _ _
    have hr : f * 2 ^ (-(q + 0)).toNat * (2 ^ (q + 1074).toNat * 2 ^ 1022) = (f * 2 ^ 1022) * (2 ^ (-(q + 0)).toNat * 2 ^ (q + 1074).toNat) := fq_ac3 _ _ _ _
    rw [hl, hr, hc, ← Nat.pow_add, ← Nat.pow_add, ← Nat.pow_add, show 52 + (q + 0).toNat + 1022 = (-(q + 0)).toNat + (q + 1074).toNat by omega]
  exact_mod_cast h
theorem fq_bits {d : UInt64} (h1 : 4607182418800017408 ≤ d.toNat) (h2 : d.toNat ≤ 4611686018427387904) : 4607182418800017408 + FP.Core.d2l (FP.Core.dmul (FP.Core.dsub d FP.Core.dconst1) 4841369599423283200) = d.toInt64 := by
  obtain ⟨f, hf⟩ : ∃ f, d.toNat = 4607182418800017408 + f := ⟨d.toNat - 4607182418800017408, by omega⟩
  have hl : f ≤ 4503599627370496 := by omega
  have hi : (Int64.ofNat f).toInt = (f : Int) := Int64.toInt_ofNat_of_lt (by omega)
  have hm := fq_mul hl hf
  rw [← hi] at hm
  rw [FP.Core.d2l_int hm]
  have e1 : (4607182418800017408 : Int64) = Int64.ofNat 4607182418800017408 := rfl
  rw [e1, ← Int64.ofNat_add, ← hf]
  apply Int64.toInt_inj.mp
  rw [Int64.toInt_ofNat_of_lt (by omega)]
  show _ = d.toInt64.toInt
  rw [Int64.toInt]
  show _ = (d.toBitVec).toInt
  rw [BitVec.toInt_eq_toNat_of_lt (by show 2 * d.toNat < 2 ^ 64; omega)]
  rfl
theorem vf_ne {r : UInt64} (h : vf_n64 r) : FP.Core.val64 r ≠ .nan := by
  rw [FP.Core.ne_nan]
  have h2 : (r &&& 0x7fffffffffffffff).toNat ≤ (0x7ff0000000000000 : UInt64).toNat := UInt64.le_iff_toNat_le.mp h
  rw [UInt64.toNat_and, show (0x7fffffffffffffff : UInt64).toNat = 2 ^ 63 - 1 by decide, Nat.and_two_pow_sub_one_eq_mod] at h2
  exact h2
theorem ne_vf {r : UInt64} (h : FP.Core.val64 r ≠ .nan) : vf_n64 r := by
  rw [FP.Core.ne_nan] at h
  show r &&& 0x7fffffffffffffff ≤ 0x7ff0000000000000
  rw [UInt64.le_iff_toNat_le, UInt64.toNat_and, show (0x7fffffffffffffff : UInt64).toNat = 2 ^ 63 - 1 by decide, Nat.and_two_pow_sub_one_eq_mod]
  exact h
theorem fp_quot {a b : Int32} (h : ¬ b = 0) : vf_n64 (FP.ddiv (FP.i2d a) (FP.i2d b)) := ne_vf (fp_quot2 h)
theorem fq_n1 {d : UInt64} (h1 : 4607182418800017408 ≤ d.toNat) (h2 : d.toNat ≤ 4611686018427387904) : vf_n64 (FP.dsub d FP.dconst1) := by
  obtain ⟨c, q, hv, -, -⟩ := fq_sub (d := d) (f := d.toNat - 4607182418800017408) (by omega) (by omega)
  exact ne_vf (r := FP.dsub d FP.dconst1) (fun e => FP.Core.Datum.noConfusion (hv.symm.trans e))
theorem fq_n2 {d : UInt64} (h1 : 4607182418800017408 ≤ d.toNat) (h2 : d.toNat ≤ 4611686018427387904) : vf_n64 (FP.dmul (FP.dsub d FP.dconst1) 4841369599423283200) := by
  have hm := fq_mul (d := d) (f := d.toNat - 4607182418800017408) (by omega) (by omega)
  refine ne_vf (r := FP.dmul (FP.dsub d FP.dconst1) 4841369599423283200) (fun e => ?_)
  unfold FP.Core.DInt at hm
  have hm2 : FP.Core.Whole (((d.toNat - 4607182418800017408 : Nat)) : Int) (FP.Core.val64 (FP.dmul (FP.dsub d FP.dconst1) 4841369599423283200)) := hm
  rw [e] at hm2
  exact hm2
/-- the FP.Core.quotient of two whole numbers, the first from once to twice the other -/
theorem fq_worth {a b : Int32} (hb : 0 < b.toInt) (h1 : b.toInt ≤ a.toInt) (h2 : a.toInt ≤ 2 * b.toInt) : 4607182418800017408 ≤ (FP.ddiv (FP.i2d a) (FP.i2d b)).toNat ∧ (FP.ddiv (FP.i2d a) (FP.i2d b)).toNat ≤ 4611686018427387904 := by
  obtain ⟨A, hA⟩ : ∃ A : Nat, a.toInt = (A : Int) := ⟨a.toInt.toNat, by omega⟩
  obtain ⟨B, hB⟩ : ∃ B : Nat, b.toInt = (B : Int) := ⟨b.toInt.toNat, by omega⟩
  have ha := FP.Core.i2d_int a
  have hbb := FP.Core.i2d_int b
  unfold FP.Core.DInt at ha hbb
  rw [hA] at ha
  rw [hB] at hbb
  exact fq_bounds (A := A) (B := B) (by omega) (by omega) (by omega) ((FP.Core.val64_ddiv _ _).trans (fq_ratio (by omega) (by omega) ha hbb))
end FPX
