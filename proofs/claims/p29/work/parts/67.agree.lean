/-! What the law asks of the class, in numbers. -/
section AG
variable {C n nx kp : Nat} {z : Nat → Int32}
theorem prp_eq {j q : Nat} (hB : hBool z) (hj : j < 8) (hq : q ≤ 10) : prpP z j (nI q) = z (14 + 16 * j + q) := by
  obtain ⟨a, b⟩ := hB j hj
  have : q = 0 ∨ q = 1 ∨ q = 2 ∨ q = 3 ∨ q = 4 ∨ q = 5 ∨ q = 6 ∨ q = 7 ∨ q = 8 ∨ q = 9 ∨ q = 10 := by omega
  unfold prpP
  rcases this with rfl | rfl | rfl | rfl | rfl | rfl | rfl | rfl | rfl | rfl | rfl
  · rw [if_pos (by decide)]
    show _ = z (14 + 16 * j)
    rcases a with a | a
    · rw [a, if_pos rfl]
    · rw [a, if_neg (by decide)]
  · rw [if_neg (by decide), if_pos (by decide)]
  · rw [if_neg (by decide), if_neg (by decide), if_pos (by decide)]
  · rw [if_neg (by decide), if_neg (by decide), if_neg (by decide), if_pos (by decide)]
  · rw [if_neg (by decide), if_neg (by decide), if_neg (by decide), if_neg (by decide), if_pos (by decide)]
    rcases b with b | b
    · rw [b, if_pos rfl]
    · rw [b, if_neg (by decide)]
  · rw [if_neg (by decide), if_neg (by decide), if_neg (by decide), if_neg (by decide), if_neg (by decide), if_pos (by decide)]
  · rw [if_neg (by decide), if_neg (by decide), if_neg (by decide), if_neg (by decide), if_neg (by decide), if_neg (by decide), if_pos (by decide)]
  · rw [if_neg (by decide), if_neg (by decide), if_neg (by decide), if_neg (by decide), if_neg (by decide), if_neg (by decide), if_neg (by decide), if_pos (by decide)]
  · rw [if_neg (by decide), if_neg (by decide), if_neg (by decide), if_neg (by decide), if_neg (by decide), if_neg (by decide), if_neg (by decide), if_neg (by decide), if_pos (by decide)]
  · rw [if_neg (by decide), if_neg (by decide), if_neg (by decide), if_neg (by decide), if_neg (by decide), if_neg (by decide), if_neg (by decide), if_neg (by decide), if_neg (by decide), if_pos (by decide)]
  · rw [if_neg (by decide), if_neg (by decide), if_neg (by decide), if_neg (by decide), if_neg (by decide), if_neg (by decide), if_neg (by decide), if_neg (by decide), if_neg (by decide), if_neg (by decide), if_pos (by decide)]
theorem there_eq (hB : hBool z) : ∀ i : Nat, i ≤ 8 → sumF z 0 i = cntT z i
  | 0, _ => rfl
  | i + 1, hi => by
    rw [sumF, cntT, there_eq hB i (by omega)]
    rcases (hB i (by omega)).1 with a | a
    · rw [if_pos a, Nat.add_zero, a, Int32.add_zero]
    · rw [if_neg (by rw [a]; decide), Nat.add_zero, a]
theorem one4 (h : rOK C n z) (hn : n ≤ 4) : oneP (z 12) 4 = cntB z 1 n ∧ oneP (z 13) 4 = cntB z 2 n := by
  obtain ⟨a1, a2, a3, a4, a5, a6, a7, a8⟩ := h
  have far := vOK_far a6 a5
  have p := one_cnt (z := z) (kd := 1) (fun k hk => (a4 k hk).1) 4 (by omega)
  have q := one_cnt (z := z) (kd := 2) (fun k hk => (a4 k hk).2) 4 (by omega)
  have c := cnt_more (kd := 1) (by decide) far (4 - n) (by omega)
  have d := cnt_more (kd := 2) (by decide) far (4 - n) (by omega)
  rw [show n + (4 - n) = 4 by omega] at c d
  exact ⟨p.trans c, q.trans d⟩
theorem one8 (h : rOK C n z) (hn : n ≤ 4) : oneP (z 12) 4 = oneP (z 12) 8 ∧ oneP (z 13) 4 = oneP (z 13) 8 :=
  ⟨(one4 h hn).1.trans (rOK_one h).1.symm, (one4 h hn).2.trans (rOK_one h).2.symm⟩
theorem num_0 : numP z n kp 0 = nI n := if_pos rfl
theorem num_1 : numP z n kp 1 = cntT z n := by unfold numP; rw [if_neg (by decide), if_pos rfl]
theorem num_2 : numP z n kp 2 = z 6 := by unfold numP; rw [if_neg (by decide), if_neg (by decide), if_pos rfl]
theorem num_3 : numP z n kp 3 = z 7 := by unfold numP; rw [if_neg (by decide), if_neg (by decide), if_neg (by decide), if_pos rfl]
theorem num_4 : numP z n kp 4 = z 8 := by unfold numP; rw [if_neg (by decide), if_neg (by decide), if_neg (by decide), if_neg (by decide), if_pos rfl]
theorem num_5 : numP z n kp 5 = z 9 := by unfold numP; rw [if_neg (by decide), if_neg (by decide), if_neg (by decide), if_neg (by decide), if_neg (by decide), if_pos rfl]
theorem num_9 : numP z n kp 9 = z 10 := by unfold numP; rw [if_neg (by decide), if_neg (by decide), if_neg (by decide), if_neg (by decide), if_neg (by decide), if_neg (by decide), if_neg (by decide), if_neg (by decide), if_neg (by decide), if_pos rfl]
theorem num_10 : numP z n kp 10 = z 11 := by unfold numP; rw [if_neg (by decide), if_neg (by decide), if_neg (by decide), if_neg (by decide), if_neg (by decide), if_neg (by decide), if_neg (by decide), if_neg (by decide), if_neg (by decide), if_neg (by decide), if_pos rfl]
theorem num_11 : numP z n kp 11 = cntB z 1 n := by unfold numP; rw [if_neg (by decide), if_neg (by decide), if_neg (by decide), if_neg (by decide), if_neg (by decide), if_neg (by decide), if_neg (by decide), if_neg (by decide), if_neg (by decide), if_neg (by decide), if_neg (by decide), if_pos rfl]
theorem num_12 : numP z n kp 12 = cntB z 2 n := by unfold numP; rw [if_neg (by decide), if_neg (by decide), if_neg (by decide), if_neg (by decide), if_neg (by decide), if_neg (by decide), if_neg (by decide), if_neg (by decide), if_neg (by decide), if_neg (by decide), if_neg (by decide), if_neg (by decide), if_pos rfl]
theorem num_13 : numP z n kp 13 = nI kp := by unfold numP; rw [if_neg (by decide), if_neg (by decide), if_neg (by decide), if_neg (by decide), if_neg (by decide), if_neg (by decide), if_neg (by decide), if_neg (by decide), if_neg (by decide), if_neg (by decide), if_neg (by decide), if_neg (by decide), if_neg (by decide)]
/-- the law's cheapest giver: from the last member down, i of them -/
def chD (z : Nat → Int32) (n t k : Nat) (mn : Int32) : Nat → Int32
  | 0 => -1
  | i + 1 => if cd1 z (n - i - 1) t k mn then (if chD z n t k mn i < 0 then nI (n - i - 1) else if 0 < valP (z (25 + 16 * cl (chD z n t k mn i) + k)) mn - valP (z (25 + 16 * (n - i - 1) + k)) mn then nI (n - i - 1) else if valP (z (25 + 16 * cl (chD z n t k mn i) + k)) mn - valP (z (25 + 16 * (n - i - 1) + k)) mn = 0 then (if z (14 + 16 * cl (chD z n t k mn i) + 1) < z (14 + 16 * (n - i - 1) + 1) then chD z n t k mn i else nI (n - i - 1)) else chD z n t k mn i) else chD z n t k mn i
theorem chD_s {t k i m : Nat} {mn : Int32} (hm : n - i = m + 1) : chD z n t k mn (i + 1) = if cd1 z m t k mn then (if chD z n t k mn i < 0 then nI m else if 0 < valP (z (25 + 16 * cl (chD z n t k mn i) + k)) mn - valP (z (25 + 16 * m + k)) mn then nI m else if valP (z (25 + 16 * cl (chD z n t k mn i) + k)) mn - valP (z (25 + 16 * m + k)) mn = 0 then (if z (14 + 16 * cl (chD z n t k mn i) + 1) < z (14 + 16 * m + 1) then chD z n t k mn i else nI m) else chD z n t k mn i) else chD z n t k mn i := by
  rw [chD, show n - i - 1 = m by omega]
/-- who is the cheapest of those from lo on: none, or b -/
def isCh (z : Nat → Int32) (t k : Nat) (mn : Int32) (lo hi : Nat) (c : Int32) : Prop := (c = -1 ∧ ∀ j, lo ≤ j → j < hi → ¬ cd1 z j t k mn) ∨ ∃ b, lo ≤ b ∧ b < hi ∧ c = nI b ∧ cd1 z b t k mn ∧ ∀ j, lo ≤ j → j < hi → cd1 z j t k mn → ¬ chpP z j b k mn ∧ (j < b → chpP z b j k mn)
theorem chp_t {i b k : Nat} {mn : Int32} : chpP z i b k mn ↔ (valP (z (25 + 16 * i + k)) mn).toInt < (valP (z (25 + 16 * b + k)) mn).toInt ∨ ((valP (z (25 + 16 * i + k)) mn).toInt = (valP (z (25 + 16 * b + k)) mn).toInt ∧ (z (14 + 16 * i + 1)).toInt < (z (14 + 16 * b + 1)).toInt) := by
  unfold chpP
  rw [t_lt, t_lt, t_eq]
theorem isCh_uniq {t k lo hi : Nat} {mn c d : Int32} (h1 : isCh z t k mn lo hi c) (h2 : isCh z t k mn lo hi d) : c = d := by
  rcases h1 with ⟨rfl, a⟩ | ⟨b, b1, b2, rfl, b3, b4⟩
  · rcases h2 with ⟨rfl, _⟩ | ⟨e, e1, e2, rfl, e3, _⟩
    · rfl
    · exact absurd e3 (a e e1 e2)
  · rcases h2 with ⟨rfl, a⟩ | ⟨e, e1, e2, rfl, e3, e4⟩
    · exact absurd b3 (a b b1 b2)
    · rcases Nat.lt_trichotomy b e with q | q | q
      · exact absurd ((e4 b b1 b2 b3).2 q) (b4 e e1 e2 e3).1
      · rw [q]
      · exact absurd ((b4 e e1 e2 e3).2 q) (e4 b b1 b2 b3).1
theorem m1_lt {b : Nat} (hb : b < 8) : ¬ nI b < 0 := nI_pos (by omega)
theorem chD_ok {t k : Nat} {mn : Int32} (hn : n ≤ 8) (hp : ∀ i, i < 8 → 0 ≤ (z (25 + 16 * i + k)).toInt) (hm : 0 ≤ mn.toInt) (hm2 : mn.toInt ≤ 600) : ∀ i, i ≤ n → isCh z t k mn (n - i) n (chD z n t k mn i)
  | 0, _ => Or.inl ⟨rfl, fun j h1 h2 => by omega⟩
  | i + 1, hi => by
    have ih := chD_ok (t := t) hn hp hm hm2 i (by omega)
    obtain ⟨m, em⟩ : ∃ m, n - i = m + 1 := ⟨n - i - 1, by omega⟩
    rw [chD_s em, show n - (i + 1) = m by omega]
    rw [em] at ih
    have vm := (t_val (hp m (by omega)) hm hm2).2.1
    by_cases c : cd1 z m t k mn
    · rw [if_pos c]
      rcases ih with ⟨e, a⟩ | ⟨b, b1, b2, e, b3, b4⟩
      · rw [e, if_pos (by decide)]
        refine Or.inr ⟨m, Nat.le_refl _, by omega, rfl, c, fun j j1 j2 cj => ?_⟩
        have : j = m := by
          rcases Nat.lt_or_ge m j with q | q
          · exact absurd cj (a j q j2)
          · omega
        subst this
        refine ⟨fun q => ?_, fun q => absurd q (Nat.lt_irrefl _)⟩
        rw [chp_t] at q; omega
      · rw [e, if_neg (m1_lt (by omega)), show cl (nI b) = b from nI_clamp (by omega)]
        have vb := (t_val (hp b (by omega)) hm hm2).2.1
        have Lt := less_lt (a := valP (z (25 + 16 * m + k)) mn) (b := valP (z (25 + 16 * b + k)) mn) (by omega) (by omega)
        have Eq := less_eq (a := valP (z (25 + 16 * m + k)) mn) (b := valP (z (25 + 16 * b + k)) mn) (by omega) (by omega)
        have yes : ¬ chpP z b m k mn → isCh z t k mn m n (nI m) := fun hc => by
          refine Or.inr ⟨m, Nat.le_refl _, by omega, rfl, c, fun j j1 j2 cj => ⟨fun q => ?_, fun q => absurd q (by omega)⟩⟩
          rw [chp_t] at hc q
          rcases Nat.lt_or_ge m j with g | g
          · have := (b4 j g j2 cj).1
            rw [chp_t] at this; omega
          · have : j = m := by omega
            subst this; omega
        have no : chpP z b m k mn → isCh z t k mn m n (nI b) := fun hc => by
          refine Or.inr ⟨b, by omega, b2, rfl, b3, fun j j1 j2 cj => ?_⟩
          rcases Nat.lt_or_ge m j with g | g
          · exact b4 j g j2 cj
          · have : j = m := by omega
            subst this
            refine ⟨fun q => ?_, fun _ => hc⟩
            rw [chp_t] at hc q; omega
        by_cases l1 : 0 < valP (z (25 + 16 * b + k)) mn - valP (z (25 + 16 * m + k)) mn
        · rw [if_pos l1]
          refine yes (fun q => ?_)
          have := Lt.mp l1
          rw [t_lt] at this
          rw [chp_t] at q; omega
        · rw [if_neg l1]
          have n1 : ¬ valP (z (25 + 16 * m + k)) mn < valP (z (25 + 16 * b + k)) mn := fun q => l1 (Lt.mpr q)
          rw [t_lt] at n1
          by_cases l2 : valP (z (25 + 16 * b + k)) mn - valP (z (25 + 16 * m + k)) mn = 0
          · rw [if_pos l2]
            have e2 := Eq.mp l2
            rw [t_eq] at e2
            by_cases l3 : z (14 + 16 * b + 1) < z (14 + 16 * m + 1)
            · rw [if_pos l3]
              rw [t_lt] at l3
              exact no (chp_t.mpr (Or.inr ⟨e2.symm, l3⟩))
            · rw [if_neg l3]
              rw [t_lt] at l3
              refine yes (fun q => ?_)
              rw [chp_t] at q; omega
          · rw [if_neg l2]
            have n2 : ¬ valP (z (25 + 16 * m + k)) mn = valP (z (25 + 16 * b + k)) mn := fun q => l2 (Eq.mpr q)
            rw [t_eq] at n2
            refine no (chp_t.mpr (Or.inl ?_))
            omega
    · rw [if_neg c]
      rcases ih with ⟨e, a⟩ | ⟨b, b1, b2, e, b3, b4⟩
      · refine Or.inl ⟨e, fun j j1 j2 => ?_⟩
        rcases Nat.lt_or_ge m j with g | g
        · exact a j g j2
        · have : j = m := by omega
          subst this; exact c
      · refine Or.inr ⟨b, by omega, b2, e, b3, fun j j1 j2 cj => ?_⟩
        rcases Nat.lt_or_ge m j with g | g
        · exact b4 j g j2 cj
        · have : j = m := by omega
          subst this; exact absurd cj c
theorem cd1_alw {i t k : Nat} {mn : Int32} (hB : hBool z) (hn : n ≤ 8) (hi : i < n) (ht : t < n) : (¬ (nI i = nI t) ∧ alwP z n i t k mn) ↔ cd1 z i t k mn := by
  have e : ∀ j, j < 8 → (¬ (z (14 + 16 * j) = 0) ↔ z (14 + 16 * j) = 1) := fun j hj => by
    rcases (hB j hj).1 with a | a
    · rw [a]; decide
    · rw [a]; decide
  constructor
  · rintro ⟨a, b⟩
    exact ⟨a, (e i (by omega)).mp b.2.2.1.1, (e t (by omega)).mp b.2.2.1.2, b.2.2.2⟩
  · rintro ⟨a, b, c, d⟩
    exact ⟨a, ⟨nI_pos (by omega), nI_lt hi (by omega)⟩, ⟨nI_pos (by omega), nI_lt ht (by omega)⟩, ⟨(e i (by omega)).mpr b, (e t (by omega)).mpr c⟩, d⟩
theorem chG_ok {t k : Nat} {mn : Int32} (hB : hBool z) (hn : n ≤ 8) (ht : t < n) : ∀ i, i ≤ n → isCh z t k mn 0 i (chG z n t k mn i)
  | 0, _ => Or.inl ⟨rfl, fun j h1 h2 => absurd h2 (Nat.not_lt_zero j)⟩
  | i + 1, hi => by
    have ih := chG_ok (k := k) (mn := mn) hB hn ht i (by omega)
    have A := cd1_alw (k := k) (mn := mn) hB hn (show i < n by omega) ht
    rw [chG]
    by_cases c : ¬ (nI i = nI t) ∧ alwP z n i t k mn ∧ (chG z n t k mn i = -1 ∨ chpP z i (chG z n t k mn i).toNatClampNeg k mn)
    · rw [if_pos c]
      have ci := A.mp ⟨c.1, c.2.1⟩
      rcases ih with ⟨e, a⟩ | ⟨b, b1, b2, e, b3, b4⟩
      · refine Or.inr ⟨i, Nat.zero_le _, Nat.lt_succ_self i, rfl, ci, fun j j1 j2 cj => ?_⟩
        have : j = i := by
          rcases Nat.lt_or_ge j i with q | q
          · exact absurd cj (a j (Nat.zero_le _) q)
          · omega
        subst this
        refine ⟨fun q => ?_, fun q => absurd q (Nat.lt_irrefl _)⟩
        rw [chp_t] at q; omega
      · have p := c.2.2
        rw [e] at p
        have q : chpP z i b k mn := by
          rcases p with p | p
          · exact absurd p (nI_nm1 (by omega))
          · rw [nI_clamp (by omega)] at p; exact p
        refine Or.inr ⟨i, Nat.zero_le _, Nat.lt_succ_self i, rfl, ci, fun j j1 j2 cj => ?_⟩
        rcases Nat.lt_or_ge j i with g | g
        · have := (b4 j (Nat.zero_le _) g cj).1
          rw [chp_t] at this q
          refine ⟨fun w => ?_, fun _ => ?_⟩
          · rw [chp_t] at w; omega
          · rw [chp_t]; omega
        · have : j = i := by omega
          subst this
          refine ⟨fun w => ?_, fun w => absurd w (Nat.lt_irrefl _)⟩
          rw [chp_t] at w; omega
    · rw [if_neg c]
      rcases ih with ⟨e, a⟩ | ⟨b, b1, b2, e, b3, b4⟩
      · refine Or.inl ⟨e, fun j j1 j2 => ?_⟩
        rcases Nat.lt_or_ge j i with g | g
        · exact a j j1 g
        · have : j = i := by omega
          subst this
          exact fun cj => c ⟨(A.mpr cj).1, (A.mpr cj).2, Or.inl e⟩
      · refine Or.inr ⟨b, b1, by omega, e, b3, fun j j1 j2 cj => ?_⟩
        rcases Nat.lt_or_ge j i with g | g
        · exact b4 j j1 g cj
        · have : j = i := by omega
          subst this
          refine ⟨fun w => c ⟨(A.mpr cj).1, (A.mpr cj).2, Or.inr ?_⟩, fun w => absurd w (by omega)⟩
          rw [e, nI_clamp (by omega)]; exact w
theorem ch_eqD {t k : Nat} {mn : Int32} (h : rOK C n z) (ht : t < n) (hk : k < 5) (hm : bt mn 0 600) : chG z n t k mn n = chD z n t k mn n := by
  have a := chG_ok (k := k) (mn := mn) h.2.2.1 h.1 ht n (Nat.le_refl _)
  have b := chD_ok (t := t) (k := k) (mn := mn) h.1 (fun i hi => ((h.2.2.2.2.2.2.2 i hi).1 k hk).1) hm.1 hm.2 n (Nat.le_refl _)
  rw [Nat.sub_self] at b
  exact isCh_uniq a b
theorem chD_nat {t k i : Nat} {mn : Int32} (h : rOK C n z) (hk : k < 5) (hm : bt mn 0 600) (hi : i ≤ n) (c : ¬ chD z n t k mn i < 0) : ∃ b, b < n ∧ chD z n t k mn i = nI b := by
  rcases chD_ok (t := t) (k := k) (mn := mn) h.1 (fun i hi => ((h.2.2.2.2.2.2.2 i hi).1 k hk).1) hm.1 hm.2 i hi with ⟨e, _⟩ | ⟨b, _, b2, e, _⟩
  · exact absurd (by rw [e]; decide) c
  · exact ⟨b, b2, e⟩
end AG
