/-! Class and reference on ONE row. -/
/-- two rows that agree on what both sides hold -/
def agr (a b : Nat → Int32) : Prop := ∀ k, k < 142 → k ≠ 12 → k ≠ 13 → a k = b k
theorem ag_join {z : Nat → Int32} {n : Nat} : admZ z n = qz_join z n := rfl
theorem ag_pay {z : Nat → Int32} {j : Nat} {mn : Int32} : payZ z j mn = qz_pay z j mn := by
  unfold payZ qz_pay
  rw [Int32.sub_eq_add_neg]
theorem ag_out {z : Nat → Int32} {j : Nat} (hj : j < 8) : agr (outZ z j) (qz_out z j) := by
  intro k hk h12 h13
  unfold outZ qz_out
  rw [upd_ne (show k ≠ 142 + j by omega), upd_ne h13, upd_ne h12]
  by_cases h1 : k = 14 + 16 * j
  · subst h1; simp (disch := omega) only [upd_eq, upd_ne]
  by_cases h2 : k = 14 + 16 * j + 1
  · subst h2; simp (disch := omega) only [upd_eq, upd_ne]; exact Int32.sub_self _
  by_cases h3 : k = 14 + 16 * j + 2
  · subst h3; simp (disch := omega) only [upd_eq, upd_ne]
  by_cases h4 : k = 6
  · subst h4; simp (disch := omega) only [upd_eq, upd_ne]
  rw [upd_ne h1, upd_ne h3, upd_ne h4, upd_ne h2, upd_ne h3, upd_ne h2, upd_ne h1, upd_ne h4]
theorem ag_drop {z : Nat → Int32} {n : Nat} : agr (dropZ z n) (endZ z) := by
  intro k hk h12 h13
  unfold dropZ endZ
  rw [clrB_at n hk, upd_ne h13, upd_ne h12]
/-- how many are there, as a number -/
def nT (z : Nat → Int32) : Nat → Nat
  | 0 => 0
  | i + 1 => if z (14 + 16 * i) = 0 then nT z i else nT z i + 1
def nB (z : Nat → Int32) (kd : Int32) : Nat → Nat
  | 0 => 0
  | i + 1 => if z (142 + i) = kd then nB z kd i + 1 else nB z kd i
theorem nT_eq {z : Nat → Int32} : ∀ i : Nat, cntT z i = nI (nT z i)
  | 0 => rfl
  | i + 1 => by
    rw [cntT, nT]
    split
    · exact nT_eq i
    · rw [nT_eq i, nI_1]
theorem nB_eq {z : Nat → Int32} {kd : Int32} : ∀ i : Nat, cntB z kd i = nI (nB z kd i)
  | 0 => rfl
  | i + 1 => by
    rw [cntB, nB]
    split
    · rw [nB_eq i, nI_1]
    · exact nB_eq i
theorem nT_le {z : Nat → Int32} : ∀ i : Nat, nT z i ≤ i
  | 0 => Nat.le_refl _
  | i + 1 => by
    have := nT_le (z := z) i
    rw [nT]
    split <;> omega
theorem nB_le {z : Nat → Int32} {kd : Int32} : ∀ i : Nat, nB z kd i ≤ i
  | 0 => Nat.le_refl _
  | i + 1 => by
    have := nB_le (z := z) (kd := kd) i
    rw [nB]
    split <;> omega
/-- who has voted is there and is not the debtor: votes of a kind are fewer than the others -/
theorem nB_lt {z : Nat → Int32} {kd : Int32} {d : Nat} (hkd : ¬ kd = 0) (hv : ∀ i, i < 8 → ¬ z (142 + i) = 0 → ¬ z (14 + 16 * i) = 0 ∧ i ≠ d) (hd : ¬ z (14 + 16 * d) = 0) : ∀ n : Nat, n ≤ 8 → nB z kd n + (if d < n then 1 else 0) ≤ nT z n
  | 0, _ => by rw [if_neg (by omega)]; exact Nat.le_refl _
  | n + 1, hn => by
    have ih := nB_lt hkd hv hd n (by omega)
    rw [nB, nT]
    by_cases e : z (142 + n) = kd
    · obtain ⟨q1, q2⟩ := hv n (by omega) (fun q => hkd (e.symm.trans q))
      rw [if_pos e, if_neg q1]
      have : (if d < n + 1 then 1 else 0) = if d < n then 1 else 0 := by
        by_cases h : d < n
        · rw [if_pos h, if_pos (by omega)]
        · rw [if_neg h, if_neg (by omega)]
      omega
    · rw [if_neg e]
      by_cases h : d = n
      · subst h
        rw [if_neg hd, if_pos (by omega)]
        rw [if_neg (by omega)] at ih
        omega
      · have : (if d < n + 1 then 1 else 0) = if d < n then 1 else 0 := by
          by_cases h : d < n
          · rw [if_pos h, if_pos (by omega)]
          · rw [if_neg h, if_neg (by omega)]
        rw [this]
        by_cases hz : z (14 + 16 * n) = 0
        · rw [if_pos hz]; exact ih
        · rw [if_neg hz]; omega
theorem nI_lti {a b : Nat} (ha : a < 2 ^ 31) (hb : b < 2 ^ 31) : nI a < nI b ↔ a < b := by
  rw [Int32.lt_iff_toInt_lt, nI_toInt ha, nI_toInt hb]; omega
theorem ag_set {z : Nat → Int32} {n d : Nat} (hn : n ≤ 8) (hdn : d < n) (hv : ∀ i, i < 8 → ¬ z (142 + i) = 0 → ¬ z (14 + 16 * i) = 0 ∧ i ≠ d) (hd1 : z (14 + 16 * d) = 1) (h12 : oneP (z 12) 8 = cntB z 1 n) (h13 : oneP (z 13) 8 = cntB z 2 n) : setR z n = lkR z n d ∧ agr (setZ z n d) (lkZ z n d) := by
  have hd0 : ¬ z (14 + 16 * d) = 0 := by rw [hd1]; decide
  have b1 := nB_lt (kd := 1) (by decide) hv hd0 n hn
  have b2 := nB_lt (kd := 2) (by decide) hv hd0 n hn
  rw [if_pos hdn] at b1 b2
  have t := nT_le (z := z) n
  have eT : cntT z n - 1 = nI (nT z n - 1) := by rw [nT_eq]; exact pk_sub (a := nT z n) (b := 1) (by omega)
  have e1 : cntB z 1 n * 2 = nI (nB z 1 n * 2) := by rw [nB_eq]; exact pk_mul _ 2
  have e2 : cntB z 2 n * 2 = nI (nB z 2 n * 2) := by rw [nB_eq]; exact pk_mul _ 2
  have f1 : 2 * oneP (z 12) 8 = nI (nB z 1 n * 2) := by rw [h12, Int32.mul_comm, e1]
  have f2 : 2 * oneP (z 13) 8 = nI (nB z 2 n * 2) := by rw [h13, Int32.mul_comm, e2]
  have z0 : (0 : Int32) = nI 0 := rfl
  unfold setR lkR setZ lkZ
  rw [hd1, eT, e1, e2, f1, f2]
  by_cases c0 : 0 < nT z n - 1
  · have q0 : (0 : Int32) < nI (nT z n - 1) := (nI_lti (a := 0) (by omega) (by omega)).mpr c0
    rw [if_pos q0, if_pos q0, if_pos q0, if_pos q0]
    by_cases c1 : nT z n - 1 < nB z 1 n * 2
    · have q1 := (nI_lti (a := nT z n - 1) (b := nB z 1 n * 2) (by omega) (by omega)).mpr c1
      rw [if_pos q1, if_pos q1, if_pos q1]
      exact ⟨rfl, ag_drop⟩
    · have q1 : ¬ nI (nT z n - 1) < nI (nB z 1 n * 2) := fun q => c1 ((nI_lti (by omega) (by omega)).mp q)
      rw [if_neg q1, if_neg q1, if_neg q1]
      refine ⟨rfl, ?_⟩
      split
      · exact fun k _ _ _ => rfl
      · exact ag_drop
  · have q0 : ¬ (0 : Int32) < nI (nT z n - 1) := fun q => c0 ((nI_lti (a := 0) (by omega) (by omega)).mp q)
    have q1 : ¬ nI (nT z n - 1) < nI (nB z 1 n * 2) := fun q => by have := (nI_lti (by omega) (by omega)).mp q; omega
    rw [if_neg q0, if_neg q0, if_neg q0, if_neg q0, if_neg q1, if_neg q1]
    exact ⟨rfl, fun k _ _ _ => rfl⟩
/-- the masks of the reference are the ballots of the class -/
abbrev hMask (z : Nat → Int32) : Prop := ∀ k : Nat, k < 8 → ((z 12 >>> (nI k &&& 31)) &&& 1 = if z (142 + k) = 1 then 1 else 0) ∧ ((z 13 >>> (nI k &&& 31)) &&& 1 = if z (142 + k) = 2 then 1 else 0)
theorem cnt_more {z : Nat → Int32} {kd : Int32} {n : Nat} (hkd : ¬ kd = 0) (hb : ∀ i, n ≤ i → i < 8 → z (142 + i) = 0) : ∀ d : Nat, n + d ≤ 8 → cntB z kd (n + d) = cntB z kd n
  | 0, _ => rfl
  | d + 1, h => by
    show cntB z kd (n + d + 1) = _
    rw [cntB, if_neg (fun q => hkd (q.symm.trans (hb (n + d) (by omega) (by omega))))]
    exact cnt_more hkd hb d (by omega)
theorem one_cnt {z : Nat → Int32} {m kd : Int32} (h : ∀ k : Nat, k < 8 → (m >>> (nI k &&& 31)) &&& 1 = if z (142 + k) = kd then 1 else 0) : ∀ i : Nat, i ≤ 8 → oneP m i = cntB z kd i
  | 0, _ => rfl
  | i + 1, hi => by
    rw [oneP, cntB, one_cnt h i (by omega), h i (by omega)]
    split
    · rfl
    · exact Int32.add_zero _
theorem mask_one {z : Nat → Int32} {n : Nat} (hn : n ≤ 8) (h : hMask z) (hb : ∀ i, n ≤ i → i < 8 → z (142 + i) = 0) : oneP (z 12) 8 = cntB z 1 n ∧ oneP (z 13) 8 = cntB z 2 n := by
  have a := one_cnt (z := z) (kd := 1) (fun k hk => (h k hk).1) 8 (Nat.le_refl _)
  have b := one_cnt (z := z) (kd := 2) (fun k hk => (h k hk).2) 8 (Nat.le_refl _)
  have c := cnt_more (kd := 1) (by decide) hb (8 - n) (by omega)
  have d := cnt_more (kd := 2) (by decide) hb (8 - n) (by omega)
  rw [show n + (8 - n) = 8 by omega] at c d
  exact ⟨a.trans c, b.trans d⟩
theorem or_bit {a b s : Int32} : ((a ||| b) >>> s) &&& 1 = ((a >>> s) &&& 1) ||| ((b >>> s) &&& 1) := by
  rw [Int32.shiftRight_or]
  generalize a >>> s = x
  generalize b >>> s = y
  apply Int32.toBitVec_inj.mp
  simp only [Int32.toBitVec_and, Int32.toBitVec_or]
  apply BitVec.eq_of_getElem_eq
  intro i hi
  simp only [BitVec.getElem_and, BitVec.getElem_or, Bool.and_or_distrib_right]
theorem mask_vote {z : Nat → Int32} (h : hMask z) (h3 : ∀ i, i < 8 → z (142 + i) = 0 ∨ z (142 + i) = 1 ∨ z (142 + i) = 2) : hVote z := by
  intro j hj
  obtain ⟨a, b⟩ := h j hj
  rw [or_bit, a, b]
  rcases h3 j hj with q | q | q <;> rw [q] <;> decide
theorem and_bit {a b s : Int32} : ((a &&& b) >>> s) &&& 1 = ((a >>> s) &&& 1) &&& ((b >>> s) &&& 1) := by
  rw [Int32.shiftRight_and]
  generalize a >>> s = x
  generalize b >>> s = y
  apply Int32.toBitVec_inj.mp
  simp only [Int32.toBitVec_and]
  apply BitVec.eq_of_getElem_eq
  intro i hi
  simp only [BitVec.getElem_and]
  generalize x.toBitVec[i] = p
  generalize y.toBitVec[i] = q
  generalize (Int32.toBitVec 1)[i] = o
  cases p <;> cases q <;> cases o <;> rfl
theorem one_bit : ∀ j : Nat, j < 8 → ∀ k : Nat, k < 8 → ((1 <<< ((nI j) &&& 31) : Int32) >>> (nI k &&& 31)) &&& 1 = if k = j then 1 else 0 := by decide +kernel
theorem not_bit : ∀ j : Nat, j < 8 → ∀ k : Nat, k < 8 → (((1 <<< ((nI j) &&& 31)) ^^^ (-1) : Int32) >>> (nI k &&& 31)) &&& 1 = if k = j then 0 else 1 := by decide +kernel
/-- a vote, on both sides at once -/
def vtB (z : Nat → Int32) (j : Nat) (bf : Int32) : Nat → Int32 := if bf = 0 then upd (upd z (142 + j) 2) 13 ((z 13) ||| (1 <<< ((nI j) &&& 31))) else upd (upd z (142 + j) 1) 12 ((z 12) ||| (1 <<< ((nI j) &&& 31)))
theorem mask_vt {z : Nat → Int32} {j : Nat} {bf : Int32} (hj : j < 8) (h : hMask z) (h0 : z (142 + j) = 0) : hMask (vtB z j bf) := by
  intro k hk
  obtain ⟨a, b⟩ := h k hk
  unfold vtB
  by_cases hbf : bf = 0
  · rw [if_pos hbf, upd_ne (show 12 ≠ 13 by decide), upd_ne (show 12 ≠ 142 + j by omega), upd_eq rfl, upd_ne (show 142 + k ≠ 13 by omega), or_bit, one_bit j hj k hk, a, b]
    by_cases e : k = j
    · subst e; rw [upd_eq rfl, h0, if_pos rfl]; decide
    · rw [upd_ne (show 142 + k ≠ 142 + j by omega), if_neg e]
      exact ⟨rfl, Int32.or_zero⟩
  · rw [if_neg hbf, upd_eq rfl, upd_ne (show 13 ≠ 12 by decide), upd_ne (show 13 ≠ 142 + j by omega), upd_ne (show 142 + k ≠ 12 by omega), or_bit, one_bit j hj k hk, a, b]
    by_cases e : k = j
    · subst e; rw [upd_eq rfl, h0, if_pos rfl]; decide
    · rw [upd_ne (show 142 + k ≠ 142 + j by omega), if_neg e]
      exact ⟨Int32.or_zero, rfl⟩
/-! Numbers without overflow. -/
theorem t_add {a b : Int32} (h1 : -2147483648 ≤ a.toInt + b.toInt) (h2 : a.toInt + b.toInt < 2147483648) : (a + b).toInt = a.toInt + b.toInt := by
  rw [Int32.toInt_add]; exact Int.bmod_eq_of_le (by omega) (by omega)
theorem t_sub {a b : Int32} (h1 : -2147483648 ≤ a.toInt - b.toInt) (h2 : a.toInt - b.toInt < 2147483648) : (a - b).toInt = a.toInt - b.toInt := by
  rw [Int32.toInt_sub]; exact Int.bmod_eq_of_le (by omega) (by omega)
theorem t_mul {a b : Int32} (h1 : -2147483648 ≤ a.toInt * b.toInt) (h2 : a.toInt * b.toInt < 2147483648) : (a * b).toInt = a.toInt * b.toInt := by
  rw [Int32.toInt_mul]; exact Int.bmod_eq_of_le (by omega) (by omega)
theorem t_lt {a b : Int32} : a < b ↔ a.toInt < b.toInt := Int32.lt_iff_toInt_lt
theorem t_eq {a b : Int32} : a = b ↔ a.toInt = b.toInt := Int32.toInt_inj.symm
theorem less_lt {a b : Int32} (ha : 0 ≤ a.toInt) (hb : 0 ≤ b.toInt) : 0 < b - a ↔ a < b := by
  have h1 := a.toInt_lt
  have h2 := b.toInt_lt
  rw [t_lt, t_lt, t_sub (by omega) (by omega)]
  show (0 : Int) < _ ↔ _
  omega
theorem less_eq {a b : Int32} (ha : 0 ≤ a.toInt) (hb : 0 ≤ b.toInt) : b - a = 0 ↔ a = b := by
  have h1 := a.toInt_lt
  have h2 := b.toInt_lt
  rw [t_eq, t_eq, t_sub (by omega) (by omega)]
  show _ = (0 : Int) ↔ _
  omega
theorem t_div {a b : Int32} (ha : 0 ≤ a.toInt) (hb : 0 < b.toInt) : (a / b).toInt = a.toInt / b.toInt := by
  have h1 := a.toInt_lt
  have h2 : a.toInt / b.toInt ≤ a.toInt := Int.ediv_le_self _ ha
  have h3 : 0 ≤ a.toInt / b.toInt := Int.ediv_nonneg ha (by omega)
  rw [Int32.toInt_div, Int.tdiv_eq_ediv_of_nonneg ha]
  exact Int.bmod_eq_of_le (by omega) (by omega)
theorem t_ripe {q : Int32} (hq : 0 ≤ q.toInt) : 0 ≤ (ripeP q).toInt ∧ (ripeP q).toInt ≤ 9 := by
  have e : (q / 300).toInt = q.toInt / 300 := t_div hq (by decide)
  have h9 : (9 : Int32).toInt = 9 := by decide
  unfold ripeP minP
  split
  · rw [h9]; omega
  · rename_i h
    rw [t_lt, h9, e] at h
    rw [e]; omega
theorem t_rate {q : Int32} (hq : 0 ≤ q.toInt) : (rateP q).toInt = 10 + (ripeP q).toInt := by
  obtain ⟨a, b⟩ := t_ripe hq
  have h10 : (10 : Int32).toInt = 10 := by decide
  unfold rateP
  rw [t_add (by rw [h10]; omega) (by rw [h10]; omega), h10]
theorem t_val {q mn : Int32} (hq : 0 ≤ q.toInt) (hm : 0 ≤ mn.toInt) (hm2 : mn.toInt ≤ 600) : (valP q mn).toInt = mn.toInt * (10 + (ripeP q).toInt) / 10 ∧ mn.toInt ≤ (valP q mn).toInt ∧ 10 * (valP q mn).toInt ≤ 19 * mn.toInt := by
  obtain ⟨a, b⟩ := t_ripe hq
  have hr := t_rate hq
  have h10 : (10 : Int32).toInt = 10 := by decide
  have l1 : mn.toInt * 10 ≤ mn.toInt * (10 + (ripeP q).toInt) := Int.mul_le_mul_of_nonneg_left (by omega) hm
  have l2 : mn.toInt * (10 + (ripeP q).toInt) ≤ mn.toInt * 19 := Int.mul_le_mul_of_nonneg_left (by omega) hm
  have hm' : (mn * rateP q).toInt = mn.toInt * (10 + (ripeP q).toInt) := by
    rw [t_mul (by rw [hr]; omega) (by rw [hr]; omega), hr]
  have e : (valP q mn).toInt = mn.toInt * (10 + (ripeP q).toInt) / 10 := by
    unfold valP
    rw [t_div (by rw [hm']; omega) (by rw [h10]; decide), hm', h10]
  refine ⟨e, ?_, ?_⟩
  · rw [e]; omega
  · rw [e]; omega
theorem ch_eq {z : Nat → Int32} {n t k : Nat} {mn : Int32} (hn : n ≤ 8) (ht : t < n) (hp : ∀ i, i < 8 → 0 ≤ (z (25 + 16 * i + k)).toInt) (hm : 0 ≤ mn.toInt) (hm2 : mn.toInt ≤ 600) : ∀ i, i ≤ n → chG z n t k mn i = chM z t k mn i
  | 0, _ => rfl
  | i + 1, hi => by
    have ih := ch_eq hn ht hp hm hm2 i (by omega)
    rw [chG, chM, ih]
    have hi' : mP (nI i) n := ⟨nI_pos (n := i) (by omega), nI_lt (a := i) (b := n) (by omega) (by omega)⟩
    have ht' : mP (nI t) n := ⟨nI_pos (n := t) (by omega), nI_lt (a := t) (b := n) (by omega) (by omega)⟩
    by_cases c : cdP z i t k mn
    · have al : alwP z n i t k mn := ⟨hi', ht', ⟨c.2.1, c.2.2.1⟩, c.2.2.2⟩
      rw [if_pos c]
      by_cases c1 : chM z t k mn i = -1
      · rw [if_pos c1, if_pos ⟨c.1, al, Or.inl c1⟩]
      · rw [if_neg c1]
        obtain ⟨b, hb, eb⟩ := chM_nat (by omega) c1
        rw [eb, nI_cl8 hb]
        have v1 := (t_val (hp i (by omega)) hm hm2).2.1
        have v2 := (t_val (hp b hb) hm hm2).2.1
        have L := less_lt (a := valP (z (25 + 16 * i + k)) mn) (b := valP (z (25 + 16 * b + k)) mn) (by omega) (by omega)
        have E := less_eq (a := valP (z (25 + 16 * i + k)) mn) (b := valP (z (25 + 16 * b + k)) mn) (by omega) (by omega)
        by_cases q : valP (z (25 + 16 * i + k)) mn < valP (z (25 + 16 * b + k)) mn
        · rw [if_pos (L.mpr q), if_pos ⟨c.1, al, Or.inr (Or.inl q)⟩]
        · rw [if_neg (fun x => q (L.mp x))]
          by_cases q2 : valP (z (25 + 16 * i + k)) mn = valP (z (25 + 16 * b + k)) mn
          · rw [if_pos (E.mpr q2)]
            by_cases q3 : z (14 + 16 * i + 1) < z (14 + 16 * b + 1)
            · rw [if_pos q3, if_pos ⟨c.1, al, Or.inr (Or.inr ⟨q2, q3⟩)⟩]
            · rw [if_neg q3, if_neg (by
                rintro ⟨_, _, h | h | h⟩
                · exact nI_nm1 hb h
                · exact q h
                · exact q3 h.2)]
          · rw [if_neg (fun x => q2 (E.mp x)), if_neg (by
              rintro ⟨_, _, h | h | h⟩
              · exact nI_nm1 hb h
              · exact q h
              · exact q2 h.1)]
    · rw [if_neg c, if_neg (fun h => c ⟨h.1, h.2.1.2.2.1.1, h.2.1.2.2.1.2, h.2.1.2.2.2⟩)]
theorem lgM_val {z : Nat → Int32} {g t k M : Nat} (h : ∀ m : Nat, 1 ≤ m → m ≤ 600 → (cdP z g t k (nI m) ↔ m ≤ M)) : ∀ i : Nat, i ≤ 600 → lgM z g t k i = if min M i = 0 then -1 else nI (min M i)
  | 0, _ => by rw [if_pos (by omega)]; rfl
  | i + 1, hi => by
    rw [lgM]
    by_cases c : i + 1 ≤ M
    · rw [if_pos ((h (i + 1) (by omega) hi).mpr c), if_neg (by omega), show min M (i + 1) = i + 1 by omega]
    · rw [if_neg (fun q => c ((h (i + 1) (by omega) hi).mp q)), lgM_val h i (by omega), show min M (i + 1) = min M i by omega]
theorem t_neg {a : Int32} (h1 : -2147483647 ≤ a.toInt) : (-a).toInt = -a.toInt := by
  have h2 := a.toInt_lt
  rw [Int32.toInt_neg]; exact Int.bmod_eq_of_le (by omega) (by omega)
theorem cd_room {z : Nat → Int32} {t : Nat} {q mn : Int32} (hq : 0 ≤ q.toInt) (hm : 0 ≤ mn.toInt) (hm2 : mn.toInt ≤ 600) (hl : 0 ≤ (z 0).toInt) (hl2 : (z 0).toInt ≤ 9999) (hb : -20000000 ≤ (z (14 + 16 * t + 1)).toInt) (hb2 : (z (14 + 16 * t + 1)).toInt ≤ 20000000) : ¬ (z (14 + 16 * t + 1) - valP q mn < -(z 0)) ↔ mn.toInt * (10 + (ripeP q).toInt) ≤ 10 * ((z (14 + 16 * t + 1)).toInt + (z 0).toInt) + 9 := by
  obtain ⟨e, v1, v2⟩ := t_val hq hm hm2
  rw [t_lt, t_neg (by omega), t_sub (by omega) (by omega), e]
  omega
theorem lng_eq {z : Nat → Int32} {g t k : Nat} (hq : 0 ≤ (z (25 + 16 * g + k)).toInt) (hl : 0 ≤ (z 0).toInt) (hl2 : (z 0).toInt ≤ 9999) (hb : -20000000 ≤ (z (14 + 16 * t + 1)).toInt) (hb2 : (z (14 + 16 * t + 1)).toInt ≤ 20000000) : lgM z g t k 600 = lngP z g t k := by
  have none : (∀ m : Nat, 1 ≤ m → m ≤ 600 → ¬ cdP z g t k (nI m)) → lgM z g t k 600 = -1 := fun h => by
    rw [lgM_val (M := 0) (fun m h1 h2 => ⟨fun q => absurd q (h m h1 h2), fun q => by omega⟩) 600 (Nat.le_refl _), if_pos (by omega)]
  obtain ⟨r0, r9⟩ := t_ripe hq
  have hr := t_rate hq
  have hcd : ∀ m : Nat, m ≤ 600 → (¬ (z (14 + 16 * t + 1) - valP (z (25 + 16 * g + k)) (nI m) < -(z 0)) ↔ (m : Int) * (10 + (ripeP (z (25 + 16 * g + k))).toInt) ≤ 10 * ((z (14 + 16 * t + 1)).toInt + (z 0).toInt) + 9) := fun m hm => by
    have e : (nI m).toInt = (m : Int) := nI_toInt (by omega)
    have := cd_room (mn := nI m) hq (by rw [e]; omega) (by rw [e]; omega) hl hl2 hb hb2
    rw [e] at this; exact this
  unfold lngP
  by_cases e : nI g = nI t
  · rw [if_pos e]; exact none (fun m _ _ q => q.1 e)
  rw [if_neg e]
  by_cases th : ¬ (z (14 + 16 * g) = 0) ∧ ¬ (z (14 + 16 * t) = 0)
  · rw [if_pos th]
    have hs : (z (14 + 16 * t + 1) + z 0).toInt = (z (14 + 16 * t + 1)).toInt + (z 0).toInt := t_add (by omega) (by omega)
    have h1 : (1 : Int32).toInt = 1 := by decide
    have h9 : (9 : Int32).toInt = 9 := by decide
    have h10 : (10 : Int32).toInt = 10 := by decide
    by_cases c1 : z (14 + 16 * t + 1) + z 0 < 1
    · rw [if_pos c1]
      rw [t_lt, hs, h1] at c1
      refine none (fun m k1 k2 q => ?_)
      have := (hcd m k2).mp q.2.2.2
      have l : (m : Int) * 10 ≤ (m : Int) * (10 + (ripeP (z (25 + 16 * g + k))).toInt) := Int.mul_le_mul_of_nonneg_left (by omega) (by omega)
      omega
    · rw [if_neg c1]
      rw [t_lt, hs, h1] at c1
      rw [if_neg (by rw [t_lt, hr, h1]; omega)]
      have hn : (10 * (z (14 + 16 * t + 1) + z 0) + 9).toInt = 10 * ((z (14 + 16 * t + 1)).toInt + (z 0).toInt) + 9 := by
        have a : (10 * (z (14 + 16 * t + 1) + z 0)).toInt = 10 * ((z (14 + 16 * t + 1)).toInt + (z 0).toInt) := by
          rw [t_mul (by rw [h10, hs]; omega) (by rw [h10, hs]; omega), h10, hs]
        rw [t_add (by rw [a, h9]; omega) (by rw [a, h9]; omega), a, h9]
      have hd := t_div (a := 10 * (z (14 + 16 * t + 1) + z 0) + 9) (b := rateP (z (25 + 16 * g + k))) (by rw [hn]; omega) (by rw [hr]; omega)
      rw [hn, hr] at hd
      generalize hQ : 10 * ((z (14 + 16 * t + 1)).toInt + (z 0).toInt) + 9 = Q at hd hcd
      generalize hR : 10 + (ripeP (z (25 + 16 * g + k))).toInt = R at hd hcd
      have hM1 : 1 ≤ Q / R := (Int.le_ediv_iff_mul_le (by omega)).mpr (by omega)
      have hM2 : Q / R ≤ Q := Int.ediv_le_self _ (by omega)
      rw [lgM_val (M := (Q / R).toNat) (fun m k1 k2 => ⟨fun q => by
        have := (Int.le_ediv_iff_mul_le (show 0 < R by omega)).mpr ((hcd m k2).mp q.2.2.2)
        omega, fun q => ⟨e, th.1, th.2, (hcd m k2).mpr ((Int.le_ediv_iff_mul_le (show 0 < R by omega)).mp (by omega))⟩⟩) 600 (Nat.le_refl _), if_neg (by omega)]
      have h600 : (600 : Int32).toInt = 600 := by decide
      unfold minP
      by_cases c2 : (600 : Int32) < (10 * (z (14 + 16 * t + 1) + z 0) + 9) / rateP (z (25 + 16 * g + k))
      · rw [if_pos c2]
        rw [t_lt, h600, hd] at c2
        rw [show min (Q / R).toNat 600 = 600 by omega]; rfl
      · rw [if_neg c2]
        rw [t_lt, h600, hd] at c2
        apply Int32.toInt_inj.mp
        rw [hd, nI_toInt (by omega)]
        omega
  · rw [if_neg th]
    exact none (fun m _ _ q => th ⟨q.2.1, q.2.2.1⟩)
