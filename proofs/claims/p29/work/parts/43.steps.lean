/-! The rows after a call: what the class holds and what the reference holds, on one row. -/
def mrg (a b : Nat → Int32) : Nat → Int32 := upd (upd a 12 (b 12)) 13 (b 13)
/-- on the class' side, on the reference's side -/
abbrev eqC (a b : Nat → Int32) : Prop := ∀ k, k < 150 → k ≠ 12 → k ≠ 13 → a k = b k
abbrev eqM (a b : Nat → Int32) : Prop := ∀ k, k < 142 → a k = b k
theorem mrg_c {a b : Nat → Int32} {k : Nat} (h12 : k ≠ 12) (h13 : k ≠ 13) : mrg a b k = a k := by
  unfold mrg; rw [upd_ne h13, upd_ne h12]
theorem mrg_12 {a b : Nat → Int32} : mrg a b 12 = b 12 := by unfold mrg; rw [upd_ne (by decide), upd_eq rfl]
theorem mrg_13 {a b : Nat → Int32} : mrg a b 13 = b 13 := by unfold mrg; rw [upd_eq rfl]
theorem mrg_m {a b : Nat → Int32} (h : agr a b) : eqM b (mrg a b) := by
  intro k hk
  by_cases h12 : k = 12
  · subst h12; exact mrg_12.symm
  by_cases h13 : k = 13
  · subst h13; exact mrg_13.symm
  rw [mrg_c h12 h13]; exact (h k hk h12 h13).symm
theorem upd_at {a b : Nat → Int32} {i k : Nat} {x : Int32} (h : a k = b k) : upd a i x k = upd b i x k := by
  unfold upd; split
  · rfl
  · exact h
theorem clrB_val {z : Nat → Int32} {j : Nat} : ∀ n : Nat, clrB z n (142 + j) = if j < n then 0 else z (142 + j)
  | 0 => by rw [if_neg (by omega)]; rfl
  | n + 1 => by
    rw [clrB]
    by_cases e : j = n
    · subst e; rw [upd_eq rfl, if_pos (by omega)]
    · rw [upd_ne (by omega), clrB_val n]
      by_cases c : j < n
      · rw [if_pos c, if_pos (by omega)]
      · rw [if_neg c, if_neg (by omega)]
theorem clrB_c {a b : Nat → Int32} {k : Nat} (h : a k = b k) : ∀ n : Nat, clrB a n k = clrB b n k
  | 0 => h
  | n + 1 => by rw [clrB, clrB]; exact upd_at (clrB_c h n)
theorem dropZ_c {a b : Nat → Int32} {n k : Nat} (h : a k = b k) : dropZ a n k = dropZ b n k := clrB_c (upd_at (upd_at h)) n
theorem endZ_c {a b : Nat → Int32} {k : Nat} (h : a k = b k) : endZ a k = endZ b k := upd_at (upd_at (upd_at (upd_at h)))
theorem cntT_c {a b : Nat → Int32} : ∀ i : Nat, (∀ j, j < i → a (14 + 16 * j) = b (14 + 16 * j)) → cntT a i = cntT b i
  | 0, _ => rfl
  | i + 1, h => by rw [cntT, cntT, cntT_c i (fun j hj => h j (by omega)), h i (by omega)]
theorem cntB_c {a b : Nat → Int32} {kd : Int32} : ∀ i : Nat, (∀ j, j < i → a (142 + j) = b (142 + j)) → cntB a kd i = cntB b kd i
  | 0, _ => rfl
  | i + 1, h => by rw [cntB, cntB, cntB_c i (fun j hj => h j (by omega)), h i (by omega)]
theorem setR_c {a b : Nat → Int32} {n : Nat} (hn : n ≤ 8) (h : eqC a b) : setR a n = setR b n := by
  unfold setR
  rw [cntT_c n (fun j hj => h _ (by omega) (by omega) (by omega)), cntB_c n (fun j hj => h _ (by omega) (by omega) (by omega)), cntB_c n (fun j hj => h _ (by omega) (by omega) (by omega))]
theorem setZ_c {a b : Nat → Int32} {n d : Nat} (hn : n ≤ 8) (hd : d < 8) (h : eqC a b) : eqC (setZ a n d) (setZ b n d) := by
  intro k hk h12 h13
  unfold setZ
  rw [cntT_c (b := b) n (fun j hj => h _ (by omega) (by omega) (by omega)), cntB_c (b := b) n (fun j hj => h _ (by omega) (by omega) (by omega)), cntB_c (b := b) n (fun j hj => h _ (by omega) (by omega) (by omega))]
  split
  · unfold forgZ
    rw [h (14 + 16 * d + 1) (by omega) (by omega) (by omega), h (14 + 16 * d + 10) (by omega) (by omega) (by omega), h 7 (by omega) (by omega) (by omega), h 11 (by omega) (by omega) (by omega)]
    exact dropZ_c (upd_at (upd_at (upd_at (h k hk h12 h13))))
  · split
    · split
      · exact h k hk h12 h13
      · exact dropZ_c (h k hk h12 h13)
    · exact h k hk h12 h13
theorem lkR_c {a b : Nat → Int32} {n d : Nat} (hn : n ≤ 8) (hd : d < 8) (h : eqM a b) : lkR a n d = lkR b n d := by
  unfold lkR
  rw [cntT_c n (fun j hj => h _ (by omega)), h (14 + 16 * d) (by omega), h 12 (by omega), h 13 (by omega)]
theorem lkZ_c {a b : Nat → Int32} {n d : Nat} (hn : n ≤ 8) (hd : d < 8) (h : eqM a b) : eqM (lkZ a n d) (lkZ b n d) := by
  intro k hk
  unfold lkZ
  rw [cntT_c (b := b) n (fun j hj => h _ (by omega)), h (14 + 16 * d) (by omega), h 12 (by omega), h 13 (by omega)]
  split
  · split
    · rw [h (14 + 16 * d + 1) (by omega), h (14 + 16 * d + 10) (by omega), h 7 (by omega), h 11 (by omega)]
      exact endZ_c (upd_at (upd_at (upd_at (h k hk))))
    · split
      · exact h k hk
      · exact endZ_c (h k hk)
  · exact h k hk
/-- both look at the motion alike -/
theorem set_br {z : Nat → Int32} {n d : Nat} (hn : n ≤ 8) (hdn : d < n) (hv : ∀ i, i < 8 → ¬ z (142 + i) = 0 → ¬ z (14 + 16 * i) = 0 ∧ i ≠ d) (hd1 : z (14 + 16 * d) = 1) (h12 : oneP (z 12) 8 = cntB z 1 n) (h13 : oneP (z 13) 8 = cntB z 2 n) : (setZ z n d = z ∧ lkZ z n d = z) ∨ (setZ z n d = dropZ z n ∧ lkZ z n d = endZ z) ∨ (setZ z n d = forgZ z n d ∧ lkZ z n d = endZ (upd (upd (upd z (14 + 16 * d + 1) (z (14 + 16 * d + 1) + z 11)) (14 + 16 * d + 10) (z (14 + 16 * d + 10) + z 11)) 7 (z 7 + z 11))) := by
  have hd0 : ¬ z (14 + 16 * d) = 0 := by rw [hd1]; decide
  have b1 := nB_lt (kd := 1) (by decide) hv hd0 n hn
  have b2 := nB_lt (kd := 2) (by decide) hv hd0 n hn
  rw [if_pos hdn] at b1 b2
  have t := nT_le (z := z) n
  have eT : cntT z n - 1 = nI (nT z n - 1) := by rw [nT_eq]; exact pk_sub (a := nT z n) (b := 1) (by omega)
  have e1 : cntB z 1 n * 2 = nI (nB z 1 n * 2) := by rw [nB_eq]; exact pk_mul _ 2
  have e2 : cntB z 2 n * 2 = nI (nB z 2 n * 2) := by rw [nB_eq]; exact pk_mul _ 2
  have f1 : 2 * oneP (z 12) 8 = nI (nB z 1 n * 2) := by rw [h12, Int32.mul_comm, e1]
  have f2 : 2 * oneP (z 13) 8 = nI (nB z 2 n * 2) := by rw [h13, Int32.mul_comm, e2]
  unfold setZ lkZ
  rw [hd1, eT, e1, e2, f1, f2]
  by_cases c0 : 0 < nT z n - 1
  · have q0 : (0 : Int32) < nI (nT z n - 1) := (nI_lti (a := 0) (by omega) (by omega)).mpr c0
    rw [if_pos q0, if_pos q0]
    by_cases c1 : nT z n - 1 < nB z 1 n * 2
    · have q1 := (nI_lti (a := nT z n - 1) (b := nB z 1 n * 2) (by omega) (by omega)).mpr c1
      rw [if_pos q1, if_pos q1]
      exact Or.inr (Or.inr ⟨rfl, rfl⟩)
    · have q1 : ¬ nI (nT z n - 1) < nI (nB z 1 n * 2) := fun q => c1 ((nI_lti (by omega) (by omega)).mp q)
      rw [if_neg q1, if_neg q1]
      by_cases c2 : nI (nB z 2 n * 2) < nI (nT z n - 1)
      · rw [if_pos c2, if_pos c2]; exact Or.inl ⟨rfl, rfl⟩
      · rw [if_neg c2, if_neg c2]; exact Or.inr (Or.inl ⟨rfl, rfl⟩)
  · have q0 : ¬ (0 : Int32) < nI (nT z n - 1) := fun q => c0 ((nI_lti (a := 0) (by omega) (by omega)).mp q)
    have q1 : ¬ nI (nT z n - 1) < nI (nB z 1 n * 2) := fun q => by have := (nI_lti (by omega) (by omega)).mp q; omega
    rw [if_neg q0, if_neg q0, if_neg q1]
    exact Or.inl ⟨rfl, rfl⟩
/-- the motion is gone -/
theorem ok_drop {C n : Nat} {y : Nat → Int32} (hn : n ≤ 8) (h5 : y 5 = nI n) (hB : hBool y) (ht : ∀ j, n ≤ j → j < 8 → y (14 + 16 * j) = 0) (hs : sOK y) (hm : ∀ j, j < 8 → mOK C y j) (hb : ∀ j, n ≤ j → j < 8 → y (142 + j) = 0) : rOK C n (mrg (dropZ y n) (endZ y)) := by
  have lo : ∀ k, k < 142 → k ≠ 10 → k ≠ 11 → k ≠ 12 → k ≠ 13 → mrg (dropZ y n) (endZ y) k = y k := fun k hk h10 h11 h12 h13 => by
    rw [mrg_c h12 h13]; unfold dropZ; rw [clrB_at n hk, upd_ne h11, upd_ne h10]
  have bl : ∀ j, j < 8 → mrg (dropZ y n) (endZ y) (142 + j) = 0 := fun j hj => by
    rw [mrg_c (by omega) (by omega)]; unfold dropZ; rw [clrB_val]
    split
    · rfl
    · rw [upd_ne (by omega), upd_ne (by omega)]; exact hb j (by omega) hj
  have e10 : mrg (dropZ y n) (endZ y) 10 = -1 := by
    rw [mrg_c (by decide) (by decide)]; unfold dropZ; rw [clrB_at n (by omega), upd_ne (by decide), upd_eq rfl]
  have e11 : mrg (dropZ y n) (endZ y) 11 = 0 := by
    rw [mrg_c (by decide) (by decide)]; unfold dropZ; rw [clrB_at n (by omega), upd_eq rfl]
  have e12 : mrg (dropZ y n) (endZ y) 12 = 0 := by rw [mrg_12]; unfold endZ; rw [upd_ne (by decide), upd_eq rfl]
  have e13 : mrg (dropZ y n) (endZ y) 13 = 0 := by rw [mrg_13]; unfold endZ; rw [upd_eq rfl]
  refine ⟨hn, (lo 5 (by omega) (by omega) (by omega) (by omega) (by omega)).trans h5, fun i hi => ?_, fun k hk => ?_, fun j h1 h2 => (lo _ (by omega) (by omega) (by omega) (by omega) (by omega)).trans (ht j h1 h2), Or.inl ⟨e10, bl⟩, ?_, fun j hj => mOK_same (fun q h1 h2 => lo q (by omega) (by omega) (by omega) (by omega) (by omega)) (hm j hj)⟩
  · rw [lo _ (by omega) (by omega) (by omega) (by omega) (by omega), lo _ (by omega) (by omega) (by omega) (by omega) (by omega)]; exact hB i hi
  · rw [e12, e13, bl k hk]
    exact lt8 (P := fun k => ((0 : Int32) >>> (nI k &&& 31)) &&& 1 = (if (0 : Int32) = 1 then 1 else 0) ∧ ((0 : Int32) >>> (nI k &&& 31)) &&& 1 = (if (0 : Int32) = 2 then 1 else 0)) (by decide) (by decide) (by decide) (by decide) (by decide) (by decide) (by decide) (by decide) hk
  · unfold sOK
    rw [lo 0 (by omega) (by omega) (by omega) (by omega) (by omega), lo 1 (by omega) (by omega) (by omega) (by omega) (by omega), lo 3 (by omega) (by omega) (by omega) (by omega) (by omega), lo 4 (by omega) (by omega) (by omega) (by omega) (by omega), e11]
    exact ⟨hs.1, hs.2.1, hs.2.2.1, hs.2.2.2.1, by unfold bt; decide⟩
theorem ok_settle {C n : Nat} {z : Nat → Int32} {d : Nat} (hC : C ≤ 6000) (h : rOK C n z) (hdn : d < n) (h10 : z 10 = nI d) : rOK (C + 10) n (mrg (setZ z n d) (lkZ z n d)) ∧ agr (setZ z n d) (lkZ z n d) ∧ setR z n = lkR z n d := by
  have hn := h.1
  have one := rOK_one h
  obtain ⟨d2, hd2, e2, hd1, hv⟩ := vOK_some h.2.2.2.2.2.1 (by rw [h10]; exact nI_nm1 (by omega))
  have ed : d2 = d := by
    have := congrArg Int32.toInt (e2.symm.trans h10)
    rw [nI_toInt (by omega), nI_toInt (by omega)] at this
    omega
  subst ed
  obtain ⟨sR, sA⟩ := ag_set hn hdn (fun i hi => (hv i hi).2) hd1 one.1 one.2
  refine ⟨?_, sA, sR⟩
  obtain ⟨a1, a2, a3, a4, a5, a6, a7, a8⟩ := id h
  rcases set_br hn hdn (fun i hi => (hv i hi).2) hd1 one.1 one.2 with ⟨e1, e2⟩ | ⟨e1, e2⟩ | ⟨e1, e2⟩
  · rw [e1, e2]
    have : mrg z z = z := by
      funext k; unfold mrg upd
      split
      · rename_i e; rw [e]
      · split
        · rename_i e; rw [e]
        · rfl
    rw [this]; exact rOK_up (by omega) h
  · rw [e1, e2]
    exact ok_drop hn a2 a3 a5 a7 (fun j hj => mOK_up (by omega) (a8 j hj)) (vOK_far a6 a5)
  · rw [e1, e2]
    unfold forgZ
    have m11 := a7.2.2.2.2
    have md := (a8 d2 (by omega)).2.1
    refine ok_drop hn ?_ ?_ ?_ ?_ ?_ ?_
    · rw [upd_ne (by decide), upd_ne (by omega), upd_ne (by omega)]; exact a2
    · exact upd_bool (by decide) (updB_x (updB_x a3 (fun i hi => ⟨by omega, by omega⟩)) (fun i hi => ⟨by omega, by omega⟩))
    · intro j h1 h2
      rw [upd_ne (by omega), upd_ne (by omega), upd_ne (by omega)]; exact a5 j h1 h2
    · unfold sOK
      rw [upd_ne (by omega), upd_ne (by omega), upd_ne (by omega), upd_ne (by omega), upd_ne (by omega), upd_ne (by omega), upd_ne (by omega), upd_ne (by omega), upd_ne (by omega), upd_ne (by omega), upd_ne (by omega), upd_ne (by omega), upd_ne (by omega), upd_ne (by omega), upd_ne (by omega)]
      exact a7
    · intro j hj
      by_cases e : j = d2
      · subst e
        refine mOK_bal (C := C) (by omega) (fun q h1 h2 h9 h10 => by rw [upd_ne (by omega), upd_ne (by omega), upd_ne (by omega)]) ?_ (a8 j hj)
        rw [upd_ne (by omega), upd_ne (by omega), upd_eq rfl]
        unfold bt
        rw [t_add (by omega) (by omega)]
        omega
      · exact mOK_up (by omega) (mOK_same (fun q h1 h2 => by rw [upd_ne (by omega), upd_ne (by omega), upd_ne (by omega)]) (a8 j hj))
    · intro j h1 h2
      rw [upd_ne (by omega), upd_ne (by omega), upd_ne (by omega)]; exact vOK_far a6 a5 j h1 h2
