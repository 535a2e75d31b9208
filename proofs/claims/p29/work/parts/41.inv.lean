/-! What holds of every row, as long as C deals' worth of calls went by. -/
abbrev bt (a : Int32) (lo hi : Int) : Prop := lo ≤ a.toInt ∧ a.toInt ≤ hi
def mOK (C : Nat) (z : Nat → Int32) (j : Nat) : Prop := (∀ k, k < 5 → bt (z (25 + 16 * j + k)) 0 9999) ∧ bt (z (14 + 16 * j + 1)) (-9999) (2000 * C) ∧ bt (z (14 + 16 * j + 2)) 0 999 ∧ bt (z (14 + 16 * j + 5)) 0 (600 * C) ∧ (z (14 + 16 * j + 5)).toInt ≤ (z (14 + 16 * j + 7)).toInt ∧ 10 * (z (14 + 16 * j + 7)).toInt ≤ 19 * (z (14 + 16 * j + 5)).toInt
def sOK (z : Nat → Int32) : Prop := bt (z 0) 0 9999 ∧ bt (z 1) 0 999 ∧ bt (z 3) 0 100 ∧ bt (z 4) 0 300 ∧ bt (z 11) 0 9999
/-- the motion and its ballots -/
def vOK (z : Nat → Int32) (n : Nat) : Prop := (z 10 = -1 ∧ ∀ j, j < 8 → z (142 + j) = 0) ∨ ∃ d, d < n ∧ z 10 = nI d ∧ z (14 + 16 * d) = 1 ∧ ∀ j, j < 8 → (z (142 + j) = 0 ∨ z (142 + j) = 1 ∨ z (142 + j) = 2) ∧ (¬ z (142 + j) = 0 → ¬ z (14 + 16 * j) = 0 ∧ j ≠ d)
def rOK (C n : Nat) (z : Nat → Int32) : Prop := n ≤ 8 ∧ z 5 = nI n ∧ hBool z ∧ hMask z ∧ (∀ j, n ≤ j → j < 8 → z (14 + 16 * j) = 0) ∧ vOK z n ∧ sOK z ∧ ∀ j, j < 8 → mOK C z j
theorem mOK_up {C C2 : Nat} {z : Nat → Int32} {j : Nat} (h : C ≤ C2) (a : mOK C z j) : mOK C2 z j := by
  obtain ⟨a1, a2, a3, a4, a5, a6⟩ := a
  exact ⟨a1, ⟨a2.1, by have := a2.2; omega⟩, a3, ⟨a4.1, by have := a4.2; omega⟩, a5, a6⟩
theorem rOK_up {C C2 n : Nat} {z : Nat → Int32} (h : C ≤ C2) (a : rOK C n z) : rOK C2 n z := by
  obtain ⟨a1, a2, a3, a4, a5, a6, a7, a8⟩ := a
  exact ⟨a1, a2, a3, a4, a5, a6, a7, fun j hj => mOK_up h (a8 j hj)⟩
/-- a member whose numbers stay -/
theorem mOK_same {C : Nat} {z z2 : Nat → Int32} {j : Nat} (h : ∀ q, 14 + 16 * j + 1 ≤ q → q < 30 + 16 * j → z2 q = z q) (a : mOK C z j) : mOK C z2 j := by
  obtain ⟨a1, a2, a3, a4, a5, a6⟩ := a
  unfold mOK
  rw [h (14 + 16 * j + 1) (by omega) (by omega), h (14 + 16 * j + 2) (by omega) (by omega), h (14 + 16 * j + 5) (by omega) (by omega), h (14 + 16 * j + 7) (by omega) (by omega)]
  exact ⟨fun k hk => by rw [h (25 + 16 * j + k) (by omega) (by omega)]; exact a1 k hk, a2, a3, a4, a5, a6⟩
/-- a new balance alone -/
theorem mOK_bal {C C2 : Nat} {z z2 : Nat → Int32} {j : Nat} (hC : C ≤ C2) (h : ∀ q, 14 + 16 * j + 2 ≤ q → q < 30 + 16 * j → ¬ q = 14 + 16 * j + 9 → ¬ q = 14 + 16 * j + 10 → z2 q = z q) (hb : bt (z2 (14 + 16 * j + 1)) (-9999) (2000 * C2)) (a : mOK C z j) : mOK C2 z2 j := by
  obtain ⟨a1, a2, a3, a4, a5, a6⟩ := a
  unfold mOK
  rw [h (14 + 16 * j + 2) (by omega) (by omega) (by omega) (by omega), h (14 + 16 * j + 5) (by omega) (by omega) (by omega) (by omega), h (14 + 16 * j + 7) (by omega) (by omega) (by omega) (by omega)]
  exact ⟨fun k hk => by rw [h (25 + 16 * j + k) (by omega) (by omega) (by omega) (by omega)]; exact a1 k hk, hb, a3, ⟨a4.1, by have := a4.2; omega⟩, a5, a6⟩
theorem hMask_same {z z2 : Nat → Int32} (h12 : z2 12 = z 12) (h13 : z2 13 = z 13) (h : ∀ k, k < 8 → z2 (142 + k) = z (142 + k)) (a : hMask z) : hMask z2 := by
  intro k hk
  rw [h12, h13, h k hk]
  exact a k hk
theorem vOK_same {z z2 : Nat → Int32} {n : Nat} (h10 : z2 10 = z 10) (h : ∀ k, k < 8 → z2 (142 + k) = z (142 + k)) (ht : ∀ k, k < 8 → z2 (14 + 16 * k) = z (14 + 16 * k)) (hn : n ≤ 8) (a : vOK z n) : vOK z2 n := by
  rcases a with ⟨a, b⟩ | ⟨d, hd, a, b, c⟩
  · exact Or.inl ⟨h10.trans a, fun j hj => (h j hj).trans (b j hj)⟩
  · refine Or.inr ⟨d, hd, h10.trans a, (ht d (by omega)).trans b, fun j hj => ?_⟩
    rw [h j hj, ht j hj]
    exact c j hj
theorem vOK_none {z : Nat → Int32} {n : Nat} (hn : n ≤ 8) (hv : vOK z n) (h : z 10 = -1) : ∀ j, j < 8 → z (142 + j) = 0 := by
  rcases hv with ⟨_, b⟩ | ⟨d, hd, a, _, c⟩
  · exact b
  · intro j hj
    exact absurd (h.symm.trans a) (nI_m1 (by omega))
/-- who has a motion -/
theorem vOK_some {z : Nat → Int32} {n : Nat} (hv : vOK z n) (h : ¬ z 10 = -1) : ∃ d, d < n ∧ z 10 = nI d ∧ z (14 + 16 * d) = 1 ∧ ∀ j, j < 8 → (z (142 + j) = 0 ∨ z (142 + j) = 1 ∨ z (142 + j) = 2) ∧ (¬ z (142 + j) = 0 → ¬ z (14 + 16 * j) = 0 ∧ j ≠ d) := by
  rcases hv with ⟨a, _⟩ | a
  · exact absurd a h
  · exact a
theorem vOK_3 {z : Nat → Int32} {n : Nat} (hv : vOK z n) : ∀ j, j < 8 → z (142 + j) = 0 ∨ z (142 + j) = 1 ∨ z (142 + j) = 2 := by
  rcases hv with ⟨_, b⟩ | ⟨d, _, _, _, c⟩
  · exact fun j hj => Or.inl (b j hj)
  · exact fun j hj => (c j hj).1
theorem vOK_far {z : Nat → Int32} {n : Nat} (hv : vOK z n) (ht : ∀ j, n ≤ j → j < 8 → z (14 + 16 * j) = 0) : ∀ j, n ≤ j → j < 8 → z (142 + j) = 0 := by
  rcases hv with ⟨_, b⟩ | ⟨d, _, _, _, c⟩
  · exact fun j _ hj => b j hj
  · intro j h1 h2
    by_cases q : z (142 + j) = 0
    · exact q
    · exact absurd (ht j h1 h2) ((c j h2).2 q).1
theorem rOK_one {C n : Nat} {z : Nat → Int32} (h : rOK C n z) : oneP (z 12) 8 = cntB z 1 n ∧ oneP (z 13) 8 = cntB z 2 n :=
  mask_one h.1 h.2.2.2.1 (vOK_far h.2.2.2.2.2.1 h.2.2.2.2.1)
theorem rOK_vote {C n : Nat} {z : Nat → Int32} (h : rOK C n z) : hVote z := mask_vote h.2.2.2.1 (vOK_3 h.2.2.2.2.2.1)
/-! A deal. -/
theorem deal_off {z : Nat → Int32} {g t k q : Nat} {mn : Int32} (h1 : q ≠ 14 + 16 * t + 1) (h2 : q ≠ 14 + 16 * t + 8) (h3 : q ≠ 14 + 16 * t + 6) (h4 : q ≠ 14 + 16 * t + 4) (h5 : q ≠ 14 + 16 * g + 1) (h6 : q ≠ 14 + 16 * g + 7) (h7 : q ≠ 14 + 16 * g + 5) (h8 : q ≠ 14 + 16 * g + 4) (h9 : q ≠ 25 + 16 * g + k) (h10 : q ≠ 14 + 16 * g + 2) (h11 : q ≠ 6) (h12 : q ≠ 9) : dealZ z g t k mn q = z q := by
  unfold dealZ
  rw [upd_ne h12, upd_ne h11, upd_ne h5, upd_ne h10, upd_ne h9, upd_ne h8, upd_ne h7, upd_ne h6, upd_ne h5, upd_ne h4, upd_ne h3, upd_ne h2, upd_ne h1]
theorem t_minP {a b : Int32} : (minP a b).toInt = min a.toInt b.toInt := by
  unfold minP
  split <;> rename_i h <;> rw [t_lt] at h <;> omega
theorem t_maxP {a b : Int32} : (maxP a b).toInt = max a.toInt b.toInt := by
  unfold maxP
  split <;> rename_i h <;> rw [t_lt] at h <;> omega
theorem ok_deal {C n : Nat} {z : Nat → Int32} {g t k : Nat} {mn : Int32} (hC : C ≤ 6000) (h : rOK C n z) (hg : g < 8) (ht : t < 8) (hgt : g ≠ t) (hk : k < 5) (hm : bt mn 1 600) (hal : ¬ (z (14 + 16 * t + 1) - valP (z (25 + 16 * g + k)) mn < -(z 0))) : rOK (C + 1) n (dealZ z g t k mn) := by
  obtain ⟨a1, a2, a3, a4, a5, a6, a7, a8⟩ := h
  obtain ⟨m1, m2, m3, m4, m5, m6⟩ := a8 g hg
  obtain ⟨t1, t2, t3, t4, t5, t6⟩ := a8 t ht
  obtain ⟨v0, v1, v2⟩ := t_val (q := z (25 + 16 * g + k)) (mn := mn) (m1 k hk).1 (by omega) hm.2
  have hv : bt (valP (z (25 + 16 * g + k)) mn) 1 1140 := ⟨by omega, by omega⟩
  have h2 : (2 : Int32).toInt = 2 := by decide
  have hq : (valP (z (25 + 16 * g + k)) mn / 2).toInt = (valP (z (25 + 16 * g + k)) mn).toInt / 2 := by
    rw [t_div (by omega) (by rw [h2]; omega), h2]
  have hp : (minP (valP (z (25 + 16 * g + k)) mn / 2) (z (14 + 16 * g + 2))).toInt = min ((valP (z (25 + 16 * g + k)) mn).toInt / 2) (z (14 + 16 * g + 2)).toInt := by rw [t_minP, hq]
  have hs : (z 0).toInt ≤ 9999 ∧ 0 ≤ (z 0).toInt := ⟨a7.1.2, a7.1.1⟩
  have off : ∀ q, (∀ j, j < 8 → 15 + 16 * j ≤ q → q < 30 + 16 * j → False) → q ≠ 6 → q ≠ 9 → dealZ z g t k mn q = z q := fun q hq h6 h9 =>
    deal_off (fun e => hq t ht (by omega) (by omega)) (fun e => hq t ht (by omega) (by omega)) (fun e => hq t ht (by omega) (by omega)) (fun e => hq t ht (by omega) (by omega)) (fun e => hq g hg (by omega) (by omega)) (fun e => hq g hg (by omega) (by omega)) (fun e => hq g hg (by omega) (by omega)) (fun e => hq g hg (by omega) (by omega)) (fun e => hq g hg (by omega) (by omega)) (fun e => hq g hg (by omega) (by omega)) h6 h9
  have oth : ∀ i, i < 8 → dealZ z g t k mn (14 + 16 * i) = z (14 + 16 * i) := fun i hi => off _ (fun j hj h1 h2 => by omega) (by omega) (by omega)
  have obl : ∀ i, i < 8 → dealZ z g t k mn (142 + i) = z (142 + i) := fun i hi => off _ (fun j hj h1 h2 => by omega) (by omega) (by omega)
  have osm : ∀ q, q < 14 → q ≠ 6 → q ≠ 9 → dealZ z g t k mn q = z q := fun q hq h6 h9 => off q (fun j hj h1 h2 => by omega) h6 h9
  generalize hV : valP (z (25 + 16 * g + k)) mn = v at *
  generalize hP : minP (v / 2) (z (14 + 16 * g + 2)) = p at *
  refine ⟨a1, (osm 5 (by omega) (by omega) (by omega)).trans a2, dealZ_bool hk a3, hMask_same (osm 12 (by omega) (by omega) (by omega)) (osm 13 (by omega) (by omega) (by omega)) obl a4, fun j h1 h2 => (oth j h2).trans (a5 j h1 h2), vOK_same (osm 10 (by omega) (by omega) (by omega)) obl oth a1 a6, ?_, fun j hj => ?_⟩
  · unfold sOK
    rw [osm 0 (by omega) (by omega) (by omega), osm 1 (by omega) (by omega) (by omega), osm 3 (by omega) (by omega) (by omega), osm 4 (by omega) (by omega) (by omega), osm 11 (by omega) (by omega) (by omega)]
    exact a7
  · by_cases eg : j = g
    · subst eg
      have b1 : dealZ z j t k mn (14 + 16 * j + 1) = z (14 + 16 * j + 1) + v - p := by
        unfold dealZ; rw [hV, hP]; simp (disch := omega) only [upd_eq, upd_ne]
      have b2 : dealZ z j t k mn (14 + 16 * j + 2) = z (14 + 16 * j + 2) - p := by
        unfold dealZ; rw [hV, hP]; simp (disch := omega) only [upd_eq, upd_ne]
      have b5 : dealZ z j t k mn (14 + 16 * j + 5) = z (14 + 16 * j + 5) + mn := by
        unfold dealZ; rw [hV, hP]; simp (disch := omega) only [upd_eq, upd_ne]
      have b7 : dealZ z j t k mn (14 + 16 * j + 7) = z (14 + 16 * j + 7) + v := by
        unfold dealZ; rw [hV, hP]; simp (disch := omega) only [upd_eq, upd_ne]
      have bp : ∀ i, i < 5 → bt (dealZ z j t k mn (25 + 16 * j + i)) 0 9999 := fun i hi => by
        by_cases e : i = k
        · subst e
          have : dealZ z j t i mn (25 + 16 * j + i) = minP (z (25 + 16 * j + i) + mn) 9999 := by
            unfold dealZ; rw [hV, hP]; simp (disch := omega) only [upd_eq, upd_ne]
          have h9 : (9999 : Int32).toInt = 9999 := by decide
          have := m1 i hi
          rw [‹dealZ z j t i mn (25 + 16 * j + i) = _›]
          unfold bt
          rw [t_minP, h9, t_add (by omega) (by omega)]
          omega
        · rw [deal_off (by omega) (by omega) (by omega) (by omega) (by omega) (by omega) (by omega) (by omega) (by omega) (by omega) (by omega) (by omega)]
          exact m1 i hi
      unfold mOK
      rw [b1, b2, b5, b7]
      have s1 : (z (14 + 16 * j + 1) + v).toInt = (z (14 + 16 * j + 1)).toInt + v.toInt := t_add (by omega) (by omega)
      have s2 : (z (14 + 16 * j + 1) + v - p).toInt = (z (14 + 16 * j + 1)).toInt + v.toInt - p.toInt := by rw [t_sub (by omega) (by omega), s1]
      have s3 : (z (14 + 16 * j + 2) - p).toInt = (z (14 + 16 * j + 2)).toInt - p.toInt := t_sub (by omega) (by omega)
      have s4 : (z (14 + 16 * j + 5) + mn).toInt = (z (14 + 16 * j + 5)).toInt + mn.toInt := t_add (by omega) (by omega)
      have s5 : (z (14 + 16 * j + 7) + v).toInt = (z (14 + 16 * j + 7)).toInt + v.toInt := t_add (by omega) (by omega)
      refine ⟨bp, ?_, ?_, ?_, ?_, ?_⟩
      · unfold bt; rw [s2]; omega
      · unfold bt; rw [s3]; omega
      · unfold bt; rw [s4]; omega
      · rw [s4, s5]; omega
      · rw [s4, s5]; omega
    · by_cases et : j = t
      · subst et
        have b1 : dealZ z g j k mn (14 + 16 * j + 1) = z (14 + 16 * j + 1) - v := by
          unfold dealZ; rw [hV, hP]; simp (disch := omega) only [upd_eq, upd_ne]
        have o : ∀ q, 14 + 16 * j + 2 ≤ q → q < 30 + 16 * j → q ≠ 14 + 16 * j + 8 → q ≠ 14 + 16 * j + 6 → q ≠ 14 + 16 * j + 4 → dealZ z g j k mn q = z q := fun q h1 h2 h3 h4 h5 =>
          deal_off (by omega) (by omega) (by omega) (by omega) (by omega) (by omega) (by omega) (by omega) (by omega) (by omega) (by omega) (by omega)
        unfold mOK
        rw [b1, o (14 + 16 * j + 2) (by omega) (by omega) (by omega) (by omega) (by omega), o (14 + 16 * j + 5) (by omega) (by omega) (by omega) (by omega) (by omega), o (14 + 16 * j + 7) (by omega) (by omega) (by omega) (by omega) (by omega)]
        have s1 : (z (14 + 16 * j + 1) - v).toInt = (z (14 + 16 * j + 1)).toInt - v.toInt := t_sub (by omega) (by omega)
        rw [t_lt, s1, t_neg (by omega)] at hal
        refine ⟨fun i hi => ?_, ?_, t3, ⟨t4.1, by have := t4.2; omega⟩, t5, t6⟩
        · rw [o (25 + 16 * j + i) (by omega) (by omega) (by omega) (by omega) (by omega)]; exact t1 i hi
        · unfold bt; rw [s1]; omega
      · exact mOK_up (by omega) (mOK_same (fun q h1 h2 => deal_off (by omega) (by omega) (by omega) (by omega) (by omega) (by omega) (by omega) (by omega) (by omega) (by omega) (by omega) (by omega)) (a8 j hj))
