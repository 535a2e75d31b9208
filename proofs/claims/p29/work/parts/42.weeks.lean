/-! Weeks, on a row; what would decay, of class and reference. -/
theorem rust_val {z : Nat → Int32} {j q : Nat} {r : Int32} : ∀ m : Nat, rustZ z j r m q = if 25 + 16 * j ≤ q ∧ q < 25 + 16 * j + m then maxP (z q - r) 0 else z q
  | 0 => by rw [if_neg (by omega)]; rfl
  | m + 1 => by
    rw [rustZ]
    by_cases e : q = 25 + 16 * j + m
    · subst e; rw [upd_eq rfl, if_pos (by omega)]
    · rw [upd_ne e, rust_val m]
      by_cases c : 25 + 16 * j ≤ q ∧ q < 25 + 16 * j + m
      · rw [if_pos c, if_pos (by omega)]
      · rw [if_neg c, if_neg (by omega)]
section EW
variable {z y : Nat → Int32} {j q : Nat}
theorem ew_1 : ewZ z j (14 + 16 * j + 1) = z (14 + 16 * j + 1) - ewR z j := by
  unfold ewZ ewR
  by_cases c : z 2 < idlP z j
  · rw [if_pos c, if_pos c, rust_val, if_neg (by omega), upd_ne (by omega), upd_eq rfl]
  · rw [if_neg c, if_neg c, upd_ne (by omega), upd_ne (by omega), Int32.sub_zero]
theorem ew_9 : ewZ z j (14 + 16 * j + 9) = z (14 + 16 * j + 9) + ewR z j := by
  unfold ewZ ewR
  by_cases c : z 2 < idlP z j
  · rw [if_pos c, if_pos c, rust_val, if_neg (by omega), upd_ne (by omega), upd_ne (by omega), upd_eq rfl]
  · rw [if_neg c, if_neg c, upd_ne (by omega), upd_ne (by omega), Int32.add_zero]
theorem ew_3 : ewZ z j (14 + 16 * j + 3) = idlP z j := by
  unfold ewZ
  by_cases c : z 2 < idlP z j
  · rw [if_pos c, rust_val, if_neg (by omega), upd_ne (by omega), upd_ne (by omega), upd_ne (by omega), upd_ne (by omega), upd_eq rfl]
  · rw [if_neg c, upd_ne (by omega), upd_eq rfl]
theorem ew_4 : ewZ z j (14 + 16 * j + 4) = 0 := by
  unfold ewZ
  by_cases c : z 2 < idlP z j
  · rw [if_pos c, rust_val, if_neg (by omega), upd_ne (by omega), upd_ne (by omega), upd_ne (by omega), upd_eq rfl]
  · rw [if_neg c, upd_eq rfl]
theorem ew_p {k : Nat} (hk : k < 5) : ewZ z j (25 + 16 * j + k) = if z 2 < idlP z j then maxP (z (25 + 16 * j + k) - z 4) 0 else z (25 + 16 * j + k) := by
  unfold ewZ
  by_cases c : z 2 < idlP z j
  · rw [if_pos c, if_pos c, rust_val, if_pos (by omega), upd_ne (by omega), upd_ne (by omega), upd_ne (by omega), upd_ne (by omega), upd_ne (by omega)]
  · rw [if_neg c, if_neg c, upd_ne (by omega), upd_ne (by omega)]
theorem ew_off (h1 : q ≠ 14 + 16 * j + 1) (h3 : q ≠ 14 + 16 * j + 3) (h4 : q ≠ 14 + 16 * j + 4) (h9 : q ≠ 14 + 16 * j + 9) (hp : q < 25 + 16 * j ∨ 30 + 16 * j ≤ q) (h6 : q ≠ 6) : ewZ z j q = z q := by
  unfold ewZ
  by_cases c : z 2 < idlP z j
  · rw [if_pos c, rust_val, if_neg (by omega), upd_ne h6, upd_ne h1, upd_ne h9, upd_ne h4, upd_ne h3]
  · rw [if_neg c, upd_ne h4, upd_ne h3]
theorem idl_congr (h : ∀ q, 14 + 16 * j ≤ q → q < 30 + 16 * j → z q = y q) : idlP z j = idlP y j := by
  unfold idlP
  rw [h (14 + 16 * j + 4) (by omega) (by omega), h (14 + 16 * j + 3) (by omega) (by omega)]
theorem ewR_congr (h2 : z 2 = y 2) (h3 : z 3 = y 3) (h : ∀ q, 14 + 16 * j ≤ q → q < 30 + 16 * j → z q = y q) : ewR z j = ewR y j := by
  unfold ewR
  rw [idl_congr h, h2, h3, h (14 + 16 * j + 1) (by omega) (by omega)]
theorem ewZ_congr (h2 : z 2 = y 2) (h3 : z 3 = y 3) (h4 : z 4 = y 4) (h : ∀ q, 14 + 16 * j ≤ q → q < 30 + 16 * j → z q = y q) (a : 14 + 16 * j ≤ q) (b : q < 30 + 16 * j) : ewZ z j q = ewZ y j q := by
  by_cases e1 : q = 14 + 16 * j + 1
  · subst e1; rw [ew_1, ew_1, ewR_congr h2 h3 h, h _ (by omega) (by omega)]
  by_cases e3 : q = 14 + 16 * j + 3
  · subst e3; rw [ew_3, ew_3, idl_congr h]
  by_cases e4 : q = 14 + 16 * j + 4
  · subst e4; rw [ew_4, ew_4]
  by_cases e9 : q = 14 + 16 * j + 9
  · subst e9; rw [ew_9, ew_9, ewR_congr h2 h3 h, h _ (by omega) (by omega)]
  by_cases p : q < 25 + 16 * j
  · rw [ew_off e1 e3 e4 e9 (Or.inl p) (by omega), ew_off e1 e3 e4 e9 (Or.inl p) (by omega), h q a b]
  · obtain ⟨k, rfl⟩ : ∃ k, q = 25 + 16 * j + k := ⟨q - (25 + 16 * j), by omega⟩
    rw [ew_p (by omega), ew_p (by omega), idl_congr h, h2, h4, h _ a b]
theorem ewk_memF : ∀ (m q : Nat), 14 + 16 * j ≤ q → q < 30 + 16 * j → ewkZ z m q = if m ≤ j ∨ z (14 + 16 * j) = 0 then z q else ewZ z j q
  | 0, q, a, b => by rw [if_pos (Or.inl (by omega))]; rfl
  | m + 1, q, a, b => by
    have ih := ewk_memF m q a b
    rw [ewkZ]
    by_cases e : m = j
    · have same : ∀ q, 14 + 16 * m ≤ q → q < 30 + 16 * m → ewkZ z m q = z q := fun q a b => by rw [ewk_memF m q (by omega) (by omega), if_pos (Or.inl (by omega))]
      subst e
      rw [same (14 + 16 * m) (by omega) (by omega)]
      by_cases c : z (14 + 16 * m) = 0
      · rw [if_pos c, if_pos (Or.inr c), same q a b]
      · rw [if_neg c, if_neg (fun h => h.elim (fun h => by omega) c), ewZ_congr (ewkZ_at m (by omega) (by omega)) (ewkZ_at m (by omega) (by omega)) (ewkZ_at m (by omega) (by omega)) same a b]
    · have e2 : (if ewkZ z m (14 + 16 * m) = 0 then ewkZ z m else ewZ (ewkZ z m) m) q = ewkZ z m q := by
        split
        · rfl
        · exact ew_off (by omega) (by omega) (by omega) (by omega) (by omega) (by omega)
      rw [e2, ih]
      by_cases c : m ≤ j ∨ z (14 + 16 * j) = 0
      · rw [if_pos c, if_pos (c.imp (fun h => by omega) id)]
      · rw [if_neg c, if_neg (fun h => c (h.imp (fun h => by omega) id))]
theorem ewk_mem (a : 14 + 16 * j ≤ q) (b : q < 30 + 16 * j) (m : Nat) : ewkZ z m q = if m ≤ j ∨ z (14 + 16 * j) = 0 then z q else ewZ z j q := ewk_memF m q a b
theorem ewk_far (h : q < 14 ∨ 142 ≤ q) (h6 : q ≠ 6) : ∀ m : Nat, m ≤ 8 → ewkZ z m q = z q
  | 0, _ => rfl
  | m + 1, hm => by
    rw [ewkZ]
    split
    · exact ewk_far h h6 m (by omega)
    · rw [ew_off (by omega) (by omega) (by omega) (by omega) (by omega) h6]
      exact ewk_far h h6 m (by omega)
theorem wk_mem {n : Nat} (a : 14 + 16 * j ≤ q) (b : q < 30 + 16 * j) : wkZ z n q = if n ≤ j ∨ z (14 + 16 * j) = 0 then z q else ewZ z j q := by
  unfold wkZ
  have same : ∀ q, 14 + 16 * j ≤ q → q < 30 + 16 * j → upd z 8 (z 8 + 1) q = z q := fun q a b => upd_ne (by omega)
  rw [ewk_mem a b, same (14 + 16 * j) (by omega) (by omega), same q a b, ewZ_congr (y := z) (upd_ne (by omega)) (upd_ne (by omega)) (upd_ne (by omega)) same a b]
theorem wk_far {n : Nat} (hn : n ≤ 8) (h : q < 14 ∨ 142 ≤ q) (h6 : q ≠ 6) (h8 : q ≠ 8) : wkZ z n q = z q := (ewk_far h h6 n hn).trans (upd_ne h8)
end EW
theorem t_dec {b q : Int32} (hb : b.toInt ≤ 20000000) (hq : bt q 0 100) : 0 ≤ (decP b q).toInt ∧ (decP b q).toInt ≤ max b.toInt 0 := by
  have h0 : (0 : Int32).toInt = 0 := by decide
  have h100 : (100 : Int32).toInt = 100 := by decide
  unfold decP
  by_cases c : 0 < b
  · rw [if_pos c]
    rw [t_lt, h0] at c
    have l1 : b.toInt * q.toInt ≤ b.toInt * 100 := Int.mul_le_mul_of_nonneg_left hq.2 (by omega)
    have l2 : 0 ≤ b.toInt * q.toInt := Int.mul_nonneg (by omega) hq.1
    have e : (b * q).toInt = b.toInt * q.toInt := t_mul (by omega) (by omega)
    rw [t_div (by rw [e]; exact l2) (by rw [h100]; omega), e, h100]
    omega
  · rw [if_neg c, h0]; omega
theorem ewR_b {z : Nat → Int32} {j : Nat} (hb : (z (14 + 16 * j + 1)).toInt ≤ 20000000) (hq : bt (z 3) 0 100) : 0 ≤ (ewR z j).toInt ∧ (ewR z j).toInt ≤ max (z (14 + 16 * j + 1)).toInt 0 := by
  unfold ewR
  split
  · exact t_dec hb hq
  · have h0 : (0 : Int32).toInt = 0 := by decide
    rw [h0]; omega
theorem wk_bal {z : Nat → Int32} {n j : Nat} : wkZ z n (14 + 16 * j + 1) = z (14 + 16 * j + 1) - (if n ≤ j ∨ z (14 + 16 * j) = 0 then 0 else ewR z j) := by
  rw [wk_mem (j := j) (by omega) (by omega)]
  split
  · rw [Int32.sub_zero]
  · exact ew_1
theorem wk_there {z : Nat → Int32} {n j : Nat} : wkZ z n (14 + 16 * j) = z (14 + 16 * j) := by
  rw [wk_mem (j := j) (by omega) (by omega)]
  split
  · rfl
  · exact ew_off (by omega) (by omega) (by omega) (by omega) (by omega) (by omega)
theorem ok_mwk {C : Nat} {z : Nat → Int32} {n j : Nat} (hC : C ≤ 6000) (h3 : bt (z 3) 0 100) (h4 : bt (z 4) 0 300) (a : mOK C z j) : mOK C (wkZ z n) j := by
  have h0 : (0 : Int32).toInt = 0 := by decide
  by_cases c : n ≤ j ∨ z (14 + 16 * j) = 0
  · exact mOK_same (fun q h1 h2 => by rw [wk_mem (j := j) (by omega) (by omega), if_pos c]) a
  · obtain ⟨a1, a2, a3, a4, a5, a6⟩ := a
    have hr := ewR_b (z := z) (j := j) (by have := a2.2; omega) h3
    unfold mOK
    rw [wk_bal, if_neg c, wk_mem (j := j) (q := 14 + 16 * j + 2) (by omega) (by omega), if_neg c, ew_off (by omega) (by omega) (by omega) (by omega) (by omega) (by omega), wk_mem (j := j) (q := 14 + 16 * j + 5) (by omega) (by omega), if_neg c, ew_off (by omega) (by omega) (by omega) (by omega) (by omega) (by omega), wk_mem (j := j) (q := 14 + 16 * j + 7) (by omega) (by omega), if_neg c, ew_off (by omega) (by omega) (by omega) (by omega) (by omega) (by omega)]
    refine ⟨fun k hk => ?_, ?_, a3, a4, a5, a6⟩
    · rw [wk_mem (j := j) (by omega) (by omega), if_neg c, ew_p hk]
      have := a1 k hk
      split
      · unfold bt
        rw [t_maxP, h0, t_sub (by omega) (by omega)]
        omega
      · exact this
    · have e : (z (14 + 16 * j + 1) - ewR z j).toInt = (z (14 + 16 * j + 1)).toInt - (ewR z j).toInt := t_sub (by omega) (by omega)
      unfold bt
      rw [e]; omega
theorem ok_wkZ {C n : Nat} {z : Nat → Int32} (hC : C ≤ 6000) (h : rOK C n z) (hB : hBool (wkZ z n)) : rOK C n (wkZ z n) := by
  obtain ⟨a1, a2, a3, a4, a5, a6, a7, a8⟩ := h
  have f : ∀ q, q < 14 ∨ 142 ≤ q → q ≠ 6 → q ≠ 8 → wkZ z n q = z q := fun q h h6 h8 => wk_far a1 h h6 h8
  refine ⟨a1, (f 5 (by omega) (by omega) (by omega)).trans a2, hB, hMask_same (f 12 (by omega) (by omega) (by omega)) (f 13 (by omega) (by omega) (by omega)) (fun k hk => f _ (by omega) (by omega) (by omega)) a4, fun j h1 h2 => wk_there.trans (a5 j h1 h2), vOK_same (f 10 (by omega) (by omega) (by omega)) (fun k hk => f _ (by omega) (by omega) (by omega)) (fun k hk => wk_there) a1 a6, ?_, fun j hj => ok_mwk hC a7.2.2.1 a7.2.2.2.1 (a8 j hj)⟩
  unfold sOK
  rw [f 0 (by omega) (by omega) (by omega), f 1 (by omega) (by omega) (by omega), f 3 (by omega) (by omega) (by omega), f 4 (by omega) (by omega) (by omega), f 11 (by omega) (by omega) (by omega)]
  exact a7
theorem ok_wkI {C n : Nat} {z : Nat → Int32} (hC : C ≤ 6000) (h : rOK C n z) : ∀ i : Nat, rOK C n (wkI z n i)
  | 0 => h
  | i + 1 => ok_wkZ hC (ok_wkI hC h i) (wkI_bool h.2.2.1 (i + 1))
/-! The sum of what decays, as the sum of what the balances lose. -/
def sumG (z y : Nat → Int32) : Nat → Int32
  | 0 => 0
  | i + 1 => sumG z y i + (z (14 + 16 * i + 1) - y (14 + 16 * i + 1))
theorem i_cut {a b c : Int32} : (a - b) + (b - c) = a - c := by grind
theorem i_sub {a b : Int32} : a - (a - b) = b := by grind
theorem i_dec {x c b y e : Int32} (h : x - c = b - y) : (x + e) - c = b - (y - e) := by grind
theorem i_mix {a b c d : Int32} : (a + b) + (c + d) = (a + c) + (b + d) := by
  rw [Int32.add_assoc, Int32.add_assoc, ← Int32.add_assoc b c d, Int32.add_comm b c, Int32.add_assoc c b d]
theorem sumG_cut {z y w : Nat → Int32} : ∀ i : Nat, sumG z y i + sumG y w i = sumG z w i
  | 0 => rfl
  | i + 1 => by rw [sumG, sumG, sumG, i_mix, sumG_cut i, i_cut]
theorem ewkR_eq {z : Nat → Int32} {n : Nat} : ∀ i : Nat, i ≤ n → ewkR z i = sumG z (ewkZ z n) i
  | 0, _ => rfl
  | i + 1, hi => by
    have same : ∀ q, 14 + 16 * i ≤ q → q < 30 + 16 * i → ewkZ z i q = z q := fun q a b => by rw [ewk_mem a b i, if_pos (Or.inl (Nat.le_refl _))]
    rw [ewkR, sumG, ewkR_eq (n := n) i (by omega), same (14 + 16 * i) (by omega) (by omega), ewk_mem (j := i) (q := 14 + 16 * i + 1) (by omega) (by omega) n]
    by_cases c : z (14 + 16 * i) = 0
    · rw [if_pos c, if_pos (Or.inr c), Int32.sub_self, Int32.add_zero]
    · rw [if_neg c, if_neg (fun h => h.elim (fun h => by omega) c), ew_1, ewR_congr (ewkZ_at i (by omega) (by omega)) (ewkZ_at i (by omega) (by omega)) same, i_sub]
theorem wkR_eq {z : Nat → Int32} {n : Nat} : wkR z n = sumG z (wkZ z n) n := by
  unfold wkR wkZ
  rw [ewkR_eq n (Nat.le_refl _)]
  have : ∀ (y : Nat → Int32) (i : Nat), sumG (upd z 8 (z 8 + 1)) y i = sumG z y i := fun y i => by
    induction i with
    | zero => rfl
    | succ i ih => rw [sumG, sumG, ih, upd_ne (by omega)]
  exact this _ _
theorem wkS_eq {z : Nat → Int32} {n : Nat} : ∀ i : Nat, wkS z n i = sumG z (wkI z n i) n
  | 0 => by
    have : ∀ i : Nat, sumG z z i = 0 := fun i => by
      induction i with
      | zero => rfl
      | succ i ih => rw [sumG, ih, Int32.sub_self]; rfl
    exact (this n).symm
  | i + 1 => by rw [wkS, wkI, wkS_eq i, wkR_eq, sumG_cut]
/-- a balance in weeks -/
theorem wkI_b {C n : Nat} {z : Nat → Int32} (hC : C ≤ 6000) (h : rOK C n z) {j : Nat} (hj : j < 8) : ∀ i : Nat, (wkI z n i (14 + 16 * j + 1)).toInt ≤ (z (14 + 16 * j + 1)).toInt ∧ min (z (14 + 16 * j + 1)).toInt 0 ≤ (wkI z n i (14 + 16 * j + 1)).toInt
  | 0 => ⟨Int.le_refl _, by show _ ≤ (z (14 + 16 * j + 1)).toInt; omega⟩
  | i + 1 => by
    have ih := wkI_b hC h hj i
    have o := ok_wkI hC h i
    have m := (o.2.2.2.2.2.2.2 j hj).2.1
    have h0 : (0 : Int32).toInt = 0 := by decide
    rw [wkI, wk_bal]
    have r := ewR_b (z := wkI z n i) (j := j) (by have := m.2; omega) o.2.2.2.2.2.2.1.2.2.1
    split
    · rw [Int32.sub_zero]; exact ih
    · rw [t_sub (by omega) (by omega)]; omega
theorem sumG_b {z y : Nat → Int32} {n : Nat} (hn : n ≤ 8) (h : ∀ j, j < 8 → bt (z (14 + 16 * j + 1) - y (14 + 16 * j + 1)) 0 20000000) : ∀ i : Nat, i ≤ n → bt (sumG z y i) 0 (20000000 * i) ∧ ∀ j, j < i → (z (14 + 16 * j + 1) - y (14 + 16 * j + 1)).toInt ≤ (sumG z y i).toInt
  | 0, _ => ⟨⟨Int.le_refl _, Int.le_refl _⟩, fun j hj => absurd hj (by omega)⟩
  | i + 1, hi => by
    obtain ⟨a, b⟩ := sumG_b hn h i (by omega)
    have q := h i (by omega)
    have e : (sumG z y (i + 1)).toInt = (sumG z y i).toInt + (z (14 + 16 * i + 1) - y (14 + 16 * i + 1)).toInt := t_add (by omega) (by omega)
    unfold bt
    rw [e]
    refine ⟨by omega, fun j hj => ?_⟩
    by_cases c : j = i
    · subst c; omega
    · have := b j (by omega); omega
/-- a member over weeks: of the class' foresight, and of the reference's row -/
theorem wkI_fd {z : Nat → Int32} {n j : Nat} (hn : n ≤ 8) (hj : j < n) (ht : ¬ z (14 + 16 * j) = 0) : ∀ i : Nat, wkI z n i (14 + 16 * j) = z (14 + 16 * j) ∧ wkI z n i (14 + 16 * j + 1) = fdR z (z (14 + 16 * j + 1)) (if z (14 + 16 * j + 4) = 0 then z (14 + 16 * j + 3) else -1) i ∧ (if wkI z n i (14 + 16 * j + 4) = 0 then wkI z n i (14 + 16 * j + 3) else -1) = fdI (if z (14 + 16 * j + 4) = 0 then z (14 + 16 * j + 3) else -1) i ∧ wkI z n i (14 + 16 * j + 9) - z (14 + 16 * j + 9) = z (14 + 16 * j + 1) - wkI z n i (14 + 16 * j + 1)
  | 0 => ⟨rfl, rfl, rfl, by rw [wkI, Int32.sub_self, Int32.sub_self]⟩
  | i + 1 => by
    obtain ⟨i1, i2, i3, i4⟩ := wkI_fd hn hj ht i
    have c : ¬ (n ≤ j ∨ wkI z n i (14 + 16 * j) = 0) := fun h => h.elim (fun h => by omega) (fun h => ht (i1.symm.trans h))
    have eI : idlP (wkI z n i) j = fdI (if z (14 + 16 * j + 4) = 0 then z (14 + 16 * j + 3) else -1) i + 1 := by
      rw [← i3]
      unfold idlP
      split
      · rfl
      · rfl
    have e2 : wkI z n i 2 = z 2 := wkI_at i (by omega) (by omega) (by omega)
    have e3 : wkI z n i 3 = z 3 := wkI_at i (by omega) (by omega) (by omega)
    rw [wkI]
    refine ⟨wk_there.trans i1, ?_, ?_, ?_⟩
    · rw [wk_bal, if_neg c, fdR]
      unfold ewR
      rw [eI, e2, e3, i2]
      generalize (if z (14 + 16 * j + 4) = 0 then z (14 + 16 * j + 3) else -1) = a0
      by_cases c2 : z 2 < fdI a0 i + 1
      · rw [if_pos c2, if_pos c2]
      · rw [if_neg c2, if_neg c2, Int32.sub_zero]
    · rw [wk_mem (j := j) (q := 14 + 16 * j + 4) (by omega) (by omega), if_neg c, ew_4, if_pos rfl, wk_mem (j := j) (q := 14 + 16 * j + 3) (by omega) (by omega), if_neg c, ew_3, eI, fdI]
    · rw [wk_mem (j := j) (q := 14 + 16 * j + 9) (by omega) (by omega), if_neg c, ew_9, wk_bal, if_neg c]
      exact i_dec i4
theorem fd_eq {C n : Nat} {z : Nat → Int32} (hC : C ≤ 6000) (h : rOK C n z) {j : Nat} (hj : j < n) (wk : Nat) : dcM z n j wk = fdP z j wk := by
  have hn := h.1
  have gone : wkI z n wk (14 + 16 * j + 9) - z (14 + 16 * j + 9) = fdP z j wk ∧ wkI z n wk (14 + 16 * j + 9) - z (14 + 16 * j + 9) = z (14 + 16 * j + 1) - wkI z n wk (14 + 16 * j + 1) := by
    unfold fdP
    by_cases c : z (14 + 16 * j) = 0
    · rw [if_pos c]
      have e : ∀ i : Nat, ∀ q, 14 + 16 * j ≤ q → q < 30 + 16 * j → wkI z n i q = z q := fun i => by
        induction i with
        | zero => exact fun q _ _ => rfl
        | succ i ih => exact fun q a b => by rw [wkI, wk_mem a b, if_pos (Or.inr ((ih _ (by omega) (by omega)).trans c)), ih q a b]
      rw [e wk _ (by omega) (by omega), e wk _ (by omega) (by omega), Int32.sub_self, Int32.sub_self]
      exact ⟨rfl, rfl⟩
    · obtain ⟨i1, i2, i3, i4⟩ := wkI_fd hn hj c wk
      rw [if_neg c, ← i2]
      exact ⟨i4, i4⟩
  have bd : ∀ k, k < 8 → bt (z (14 + 16 * k + 1) - wkI z n wk (14 + 16 * k + 1)) 0 20000000 := fun k hk => by
    have b := wkI_b hC h hk wk
    have m := (h.2.2.2.2.2.2.2 k hk).2.1
    unfold bt
    rw [t_sub (by omega) (by omega)]
    omega
  have s := (sumG_b hn bd n (Nat.le_refl _)).2 j hj
  unfold dcM
  rw [wkS_eq, if_neg (by rw [t_lt, gone.2]; omega)]
  exact gone.1
