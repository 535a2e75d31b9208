/-! The rows after each call of the class and of the reference. -/
theorem mrg_self {z : Nat → Int32} : mrg z z = z := by
  funext k; unfold mrg upd
  split
  · rename_i e; rw [e]
  · split
    · rename_i e; rw [e]
    · rfl
theorem ok_join {C n : Nat} {z : Nat → Int32} (h : rOK C n z) (hn : n < 8) : rOK (C + 10) (n + 1) (admZ z n) := by
  obtain ⟨a1, a2, a3, a4, a5, a6, a7, a8⟩ := h
  have off : ∀ q, q ≠ 5 → q ≠ 6 → q ≠ 14 + 16 * n → q ≠ 14 + 16 * n + 1 → q ≠ 14 + 16 * n + 2 → admZ z n q = z q := fun q h5 h6 h0 h1 h2 => by
    unfold admZ; rw [upd_ne h6, upd_ne h2, upd_ne h1, upd_ne h0, upd_ne h5]
  have e0 : admZ z n (14 + 16 * n) = 1 := by unfold admZ; simp (disch := omega) only [upd_eq, upd_ne]
  have e1 : admZ z n (14 + 16 * n + 1) = z 1 := by unfold admZ; simp (disch := omega) only [upd_eq, upd_ne]
  have e2 : admZ z n (14 + 16 * n + 2) = z 1 := by unfold admZ; simp (disch := omega) only [upd_eq, upd_ne]
  have e5 : admZ z n 5 = nI (n + 1) := by unfold admZ; simp (disch := omega) only [upd_eq, upd_ne]
  have bl : ∀ k, k < 8 → admZ z n (142 + k) = z (142 + k) := fun k hk => off _ (by omega) (by omega) (by omega) (by omega) (by omega)
  refine ⟨by omega, e5, ?_, hMask_same (off 12 (by omega) (by omega) (by omega) (by omega) (by omega)) (off 13 (by omega) (by omega) (by omega) (by omega) (by omega)) bl a4, fun j h1 h2 => (off _ (by omega) (by omega) (by omega) (by omega) (by omega)).trans (a5 j (by omega) h2), ?_, ?_, fun j hj => ?_⟩
  · unfold admZ
    exact upd_bool (by decide) (updB_x (updB_x (updB_0 (upd_bool (by decide) a3) (Or.inr rfl)) (fun i hi => ⟨by omega, by omega⟩)) (fun i hi => ⟨by omega, by omega⟩))
  · rcases a6 with ⟨p, q⟩ | ⟨d, hd, p, q, r⟩
    · exact Or.inl ⟨(off 10 (by omega) (by omega) (by omega) (by omega) (by omega)).trans p, fun j hj => (bl j hj).trans (q j hj)⟩
    · refine Or.inr ⟨d, by omega, (off 10 (by omega) (by omega) (by omega) (by omega) (by omega)).trans p, (off _ (by omega) (by omega) (by omega) (by omega) (by omega)).trans q, fun j hj => ?_⟩
      rw [bl j hj]
      refine ⟨(r j hj).1, fun c => ⟨?_, ((r j hj).2 c).2⟩⟩
      by_cases e : j = n
      · subst e; rw [e0]; decide
      · rw [off _ (by omega) (by omega) (by omega) (by omega) (by omega)]; exact ((r j hj).2 c).1
  · unfold sOK
    rw [off 0 (by omega) (by omega) (by omega) (by omega) (by omega), off 1 (by omega) (by omega) (by omega) (by omega) (by omega), off 3 (by omega) (by omega) (by omega) (by omega) (by omega), off 4 (by omega) (by omega) (by omega) (by omega) (by omega), off 11 (by omega) (by omega) (by omega) (by omega) (by omega)]
    exact a7
  · by_cases e : j = n
    · subst e
      obtain ⟨m1, m2, m3, m4, m5, m6⟩ := a8 j hj
      have s := a7.2.1
      unfold mOK
      rw [e1, e2, off (14 + 16 * j + 5) (by omega) (by omega) (by omega) (by omega) (by omega), off (14 + 16 * j + 7) (by omega) (by omega) (by omega) (by omega) (by omega)]
      exact ⟨fun k hk => by rw [off _ (by omega) (by omega) (by omega) (by omega) (by omega)]; exact m1 k hk, ⟨by omega, by omega⟩, s, ⟨m4.1, by have := m4.2; omega⟩, m5, m6⟩
    · exact mOK_up (by omega) (mOK_same (fun q h1 h2 => off q (by omega) (by omega) (by omega) (by omega) (by omega)) (a8 j hj))
theorem ok_pay {C n : Nat} {z : Nat → Int32} {j : Nat} {mn : Int32} (hC : C ≤ 6000) (h : rOK C n z) (hj : j < 8) (hm : bt mn 1 999) (hb : ¬ (z (14 + 16 * j + 1) < mn)) : rOK C n (payZ z j mn) := by
  obtain ⟨a1, a2, a3, a4, a5, a6, a7, a8⟩ := h
  rw [t_lt] at hb
  have off : ∀ q, q ≠ 6 → q ≠ 14 + 16 * j + 1 → payZ z j mn q = z q := fun q h6 h1 => by unfold payZ; rw [upd_ne h6, upd_ne h1]
  have e1 : payZ z j mn (14 + 16 * j + 1) = z (14 + 16 * j + 1) - mn := by unfold payZ; rw [upd_ne (by omega), upd_eq rfl]
  refine ⟨a1, (off 5 (by omega) (by omega)).trans a2, ?_, hMask_same (off 12 (by omega) (by omega)) (off 13 (by omega) (by omega)) (fun k hk => off _ (by omega) (by omega)) a4, fun i h1 h2 => (off _ (by omega) (by omega)).trans (a5 i h1 h2), vOK_same (off 10 (by omega) (by omega)) (fun k hk => off _ (by omega) (by omega)) (fun k hk => off _ (by omega) (by omega)) a1 a6, ?_, fun i hi => ?_⟩
  · exact upd_bool (by decide) (updB_x a3 (fun i hi => ⟨by omega, by omega⟩))
  · unfold sOK
    rw [off 0 (by omega) (by omega), off 1 (by omega) (by omega), off 3 (by omega) (by omega), off 4 (by omega) (by omega), off 11 (by omega) (by omega)]
    exact a7
  · by_cases e : i = j
    · subst e
      have b := (a8 i hi).2.1
      refine mOK_bal (Nat.le_refl _) (fun q h1 h2 _ _ => off q (by omega) (by omega)) ?_ (a8 i hi)
      rw [e1]; unfold bt
      rw [t_sub (by omega) (by omega)]; omega
    · exact mOK_same (fun q h1 h2 => off q (by omega) (by omega)) (a8 i hi)
theorem ok_set {C n : Nat} {z : Nat → Int32} {v : Int32} {st : Nat} (h : rOK C n z) (hst : st < 5) (hv : inP v 0 (gsA st)) : rOK C n (upd z st v) := by
  obtain ⟨a1, a2, a3, a4, a5, a6, a7, a8⟩ := h
  have off : ∀ q, 5 ≤ q → upd z st v q = z q := fun q hq => upd_ne (by omega)
  obtain ⟨v1, v2⟩ := hv
  have h0 : (0 : Int32).toInt = 0 := by decide
  rw [t_lt, h0] at v1
  rw [t_lt] at v2
  refine ⟨a1, (off 5 (by omega)).trans a2, upd_bool (by omega) a3, hMask_same (off 12 (by omega)) (off 13 (by omega)) (fun k hk => off _ (by omega)) a4, fun i h1 h2 => (off _ (by omega)).trans (a5 i h1 h2), vOK_same (off 10 (by omega)) (fun k hk => off _ (by omega)) (fun k hk => off _ (by omega)) a1 a6, ?_, fun i hi => mOK_same (fun q h1 h2 => off q (by omega)) (a8 i hi)⟩
  unfold sOK
  rw [off 11 (by omega)]
  obtain ⟨s0, s1, s3, s4, s11⟩ := a7
  have g0 : (gsA 0).toInt = 9999 := by decide
  have g1 : (gsA 1).toInt = 999 := by decide
  have g3 : (gsA 3).toInt = 100 := by decide
  have g4 : (gsA 4).toInt = 300 := by decide
  have pick : ∀ (i : Nat) (lo hi : Int), bt (z i) lo hi → (i = st → bt v lo hi) → bt (upd z st v i) lo hi := fun i lo hi p q => by
    by_cases e : i = st
    · rw [upd_eq e]; exact q e
    · rw [upd_ne e]; exact p
  refine ⟨pick 0 _ _ s0 (fun e => ?_), pick 1 _ _ s1 (fun e => ?_), pick 3 _ _ s3 (fun e => ?_), pick 4 _ _ s4 (fun e => ?_), s11⟩
  · subst e; rw [g0] at v2; exact ⟨by omega, by omega⟩
  · subst e; rw [g1] at v2; exact ⟨by omega, by omega⟩
  · subst e; rw [g3] at v2; exact ⟨by omega, by omega⟩
  · subst e; rw [g4] at v2; exact ⟨by omega, by omega⟩
theorem ok_move {C n : Nat} {z : Nat → Int32} {mn : Int32} {d : Nat} (h : rOK C n z) (hd : d < n) (hm : ¬ (mn < 1)) (ha : alwM z d mn) : rOK C n (upd (upd z 10 (nI d)) 11 mn) ∧ z (14 + 16 * d) = 1 := by
  obtain ⟨a1, a2, a3, a4, a5, a6, a7, a8⟩ := h
  obtain ⟨t, h10, hb⟩ := ha
  have td : z (14 + 16 * d) = 1 := (a3 d (by omega)).1.resolve_left t
  have off : ∀ q, q ≠ 10 → q ≠ 11 → upd (upd z 10 (nI d)) 11 mn q = z q := fun q p r => by rw [upd_ne r, upd_ne p]
  have b := (a8 d (by omega)).2.1
  have h1 : (1 : Int32).toInt = 1 := by decide
  rw [t_lt, h1] at hm
  rw [t_lt, t_neg (by omega)] at hb
  have bz := vOK_none a1 a6 h10
  refine ⟨⟨a1, (off 5 (by omega) (by omega)).trans a2, upd_bool (by decide) (upd_bool (by decide) a3), hMask_same (off 12 (by omega) (by omega)) (off 13 (by omega) (by omega)) (fun k hk => off _ (by omega) (by omega)) a4, fun i h1 h2 => (off _ (by omega) (by omega)).trans (a5 i h1 h2), Or.inr ⟨d, hd, by rw [upd_ne (by decide), upd_eq rfl], (off _ (by omega) (by omega)).trans td, fun j hj => ?_⟩, ?_, fun i hi => mOK_same (fun q h1 h2 => off q (by omega) (by omega)) (a8 i hi)⟩, td⟩
  · rw [off (142 + j) (by omega) (by omega), bz j hj]
    exact ⟨Or.inl rfl, fun c => absurd rfl c⟩
  · unfold sOK
    rw [off 0 (by omega) (by omega), off 1 (by omega) (by omega), off 3 (by omega) (by omega), off 4 (by omega) (by omega), upd_eq rfl]
    exact ⟨a7.1, a7.2.1, a7.2.2.1, a7.2.2.2.1, by omega, by omega⟩
/-- a vote -/
theorem ok_vote {C n : Nat} {z : Nat → Int32} {bf : Int32} {d j : Nat} (hC : C ≤ 6000) (h : rOK C n z) (hdn : d < n) (h10 : z 10 = nI d) (hj : j < 8) (hc : cvP z j) : rOK C n (vtB z j bf) := by
  obtain ⟨a1, a2, a3, a4, a5, a6, a7, a8⟩ := h
  obtain ⟨c1, c2, c3, c4⟩ := hc
  have off : ∀ q, q ≠ 12 → q ≠ 13 → q ≠ 142 + j → vtB z j bf q = z q := fun q p r s => by
    unfold vtB
    split
    · rw [upd_ne r, upd_ne s]
    · rw [upd_ne p, upd_ne s]
  have own : vtB z j bf (142 + j) = 1 ∨ vtB z j bf (142 + j) = 2 := by
    unfold vtB
    split
    · rw [upd_ne (by omega), upd_eq rfl]; exact Or.inr rfl
    · rw [upd_ne (by omega), upd_eq rfl]; exact Or.inl rfl
  refine ⟨a1, (off 5 (by omega) (by omega) (by omega)).trans a2, fun i hi => ?_, mask_vt hj a4 c4, fun i h1 h2 => (off _ (by omega) (by omega) (by omega)).trans (a5 i h1 h2), ?_, ?_, fun i hi => mOK_same (fun q h1 h2 => off q (by omega) (by omega) (by omega)) (a8 i hi)⟩
  · rw [off _ (by omega) (by omega) (by omega), off _ (by omega) (by omega) (by omega)]; exact a3 i hi
  · obtain ⟨d2, hd2, e2, hd1, hv⟩ := vOK_some a6 c1
    refine Or.inr ⟨d2, hd2, (off 10 (by omega) (by omega) (by omega)).trans e2, (off _ (by omega) (by omega) (by omega)).trans hd1, fun i hi => ?_⟩
    rw [off (14 + 16 * i) (by omega) (by omega) (by omega)]
    by_cases e : i = j
    · subst e
      refine ⟨Or.inr own, fun _ => ⟨c3, fun e => ?_⟩⟩
      subst e; exact c2 e2.symm
    · rw [off (142 + i) (by omega) (by omega) (by omega)]; exact hv i hi
  · unfold sOK
    rw [off 0 (by omega) (by omega) (by omega), off 1 (by omega) (by omega) (by omega), off 3 (by omega) (by omega) (by omega), off 4 (by omega) (by omega) (by omega), off 11 (by omega) (by omega) (by omega)]
    exact a7
theorem vt_c {z : Nat → Int32} {bf : Int32} {j : Nat} : eqC (upd z (142 + j) (if bf = 0 then 2 else 1)) (vtB z j bf) := by
  intro k hk h12 h13
  unfold vtB
  split
  · rw [upd_ne h13]
  · rw [upd_ne h12]
theorem vt_m {z : Nat → Int32} {bf : Int32} {j : Nat} : eqM (qz_vote z j bf) (vtB z j bf) := by
  intro k hk
  unfold vtB qz_vote
  by_cases e : bf = 0
  · rw [if_pos e, if_pos e]; exact upd_at (upd_ne (by omega)).symm
  · rw [if_neg e, if_neg e]; exact upd_at (upd_ne (by omega)).symm
/-- one leaves: the row ahead of the look at the motion -/
def lvB (z : Nat → Int32) (j : Nat) : Nat → Int32 := mrg (outZ z j) (qz_out z j)
theorem lv_c {z : Nat → Int32} {j : Nat} : eqC (outZ z j) (lvB z j) := fun k _ h12 h13 => (mrg_c h12 h13).symm
theorem lv_m {z : Nat → Int32} {j : Nat} (hj : j < 8) : eqM (qz_out z j) (lvB z j) := mrg_m (ag_out hj)
theorem lv_off {z : Nat → Int32} {j q : Nat} (h6 : q ≠ 6) (h12 : q ≠ 12) (h13 : q ≠ 13) (h0 : q ≠ 14 + 16 * j) (h1 : q ≠ 14 + 16 * j + 1) (h2 : q ≠ 14 + 16 * j + 2) (hb : q ≠ 142 + j) : lvB z j q = z q := by
  unfold lvB
  rw [mrg_c h12 h13]; unfold outZ
  rw [upd_ne hb, upd_ne h0, upd_ne h2, upd_ne h6, upd_ne h1]
theorem lv_parts {C n : Nat} {z : Nat → Int32} {j : Nat} (hC : 1 ≤ C) (h : rOK C n z) (hj : j < 8) : lvB z j 5 = nI n ∧ hBool (lvB z j) ∧ hMask (lvB z j) ∧ (∀ i, n ≤ i → i < 8 → lvB z j (14 + 16 * i) = 0) ∧ sOK (lvB z j) ∧ (∀ i, i < 8 → mOK C (lvB z j) i) ∧ (∀ i, i < 8 → lvB z j (142 + i) = if i = j then 0 else z (142 + i)) ∧ (∀ i, i < 8 → lvB z j (14 + 16 * i) = if i = j then 0 else z (14 + 16 * i)) ∧ lvB z j 10 = z 10 := by
  obtain ⟨a1, a2, a3, a4, a5, a6, a7, a8⟩ := h
  have h0 : (0 : Int32).toInt = 0 := by decide
  have th : ∀ i, i < 8 → lvB z j (14 + 16 * i) = if i = j then 0 else z (14 + 16 * i) := fun i hi => by
    by_cases e : i = j
    · subst e; rw [if_pos rfl]; unfold lvB; rw [mrg_c (by omega) (by omega)]; unfold outZ; simp (disch := omega) only [upd_eq, upd_ne]
    · rw [if_neg e, lv_off (by omega) (by omega) (by omega) (by omega) (by omega) (by omega) (by omega)]
  have bl : ∀ i, i < 8 → lvB z j (142 + i) = if i = j then 0 else z (142 + i) := fun i hi => by
    by_cases e : i = j
    · subst e; rw [if_pos rfl]; unfold lvB; rw [mrg_c (by omega) (by omega)]; unfold outZ; rw [upd_eq rfl]
    · rw [if_neg e, lv_off (by omega) (by omega) (by omega) (by omega) (by omega) (by omega) (by omega)]
  have e12 : lvB z j 12 = z 12 &&& ((1 <<< ((nI j) &&& 31)) ^^^ (-1)) := by
    unfold lvB; rw [mrg_12]; unfold qz_out; simp (disch := omega) only [upd_eq, upd_ne]
  have e13 : lvB z j 13 = z 13 &&& ((1 <<< ((nI j) &&& 31)) ^^^ (-1)) := by
    unfold lvB; rw [mrg_13]; unfold qz_out; simp (disch := omega) only [upd_eq, upd_ne]
  refine ⟨(lv_off (by omega) (by omega) (by omega) (by omega) (by omega) (by omega) (by omega)).trans a2, fun i hi => ?_, fun k hk => ?_, fun i h1 h2 => ?_, ?_, fun i hi => ?_, bl, th, lv_off (by omega) (by omega) (by omega) (by omega) (by omega) (by omega) (by omega)⟩
  · rw [th i hi, lv_off (by omega) (by omega) (by omega) (by omega) (by omega) (by omega) (by omega)]
    refine ⟨?_, (a3 i hi).2⟩
    split
    · exact Or.inl rfl
    · exact (a3 i hi).1
  · obtain ⟨p, q⟩ := a4 k hk
    rw [e12, e13, and_bit, and_bit, not_bit j hj k hk, p, q, bl k hk]
    by_cases e : k = j
    · rw [if_pos e, if_pos e]
      exact ⟨Int32.and_zero, Int32.and_zero⟩
    · rw [if_neg e, if_neg e]
      constructor
      · split <;> rfl
      · split <;> rfl
  · rw [th i h2]
    split
    · rfl
    · exact a5 i h1 h2
  · unfold sOK
    rw [lv_off (q := 0) (by omega) (by omega) (by omega) (by omega) (by omega) (by omega) (by omega), lv_off (q := 1) (by omega) (by omega) (by omega) (by omega) (by omega) (by omega) (by omega), lv_off (q := 3) (by omega) (by omega) (by omega) (by omega) (by omega) (by omega) (by omega), lv_off (q := 4) (by omega) (by omega) (by omega) (by omega) (by omega) (by omega) (by omega), lv_off (q := 11) (by omega) (by omega) (by omega) (by omega) (by omega) (by omega) (by omega)]
    exact a7
  · by_cases e : i = j
    · subst e
      obtain ⟨m1, m2, m3, m4, m5, m6⟩ := a8 i hi
      have e1 : lvB z i (14 + 16 * i + 1) = 0 := by
        rw [← lv_m hi _ (by omega)]; unfold qz_out; simp (disch := omega) only [upd_eq, upd_ne]
      have e2 : lvB z i (14 + 16 * i + 2) = 0 := by
        rw [← lv_m hi _ (by omega)]; unfold qz_out; simp (disch := omega) only [upd_eq, upd_ne]
      unfold mOK
      rw [e1, e2, lv_off (q := 14 + 16 * i + 5) (by omega) (by omega) (by omega) (by omega) (by omega) (by omega) (by omega), lv_off (q := 14 + 16 * i + 7) (by omega) (by omega) (by omega) (by omega) (by omega) (by omega) (by omega)]
      refine ⟨fun k hk => ?_, ?_, ?_, m4, m5, m6⟩
      · rw [lv_off (by omega) (by omega) (by omega) (by omega) (by omega) (by omega) (by omega)]; exact m1 k hk
      · unfold bt; rw [h0]; omega
      · unfold bt; rw [h0]; omega
    · exact mOK_same (fun q h1 h2 => lv_off (by omega) (by omega) (by omega) (by omega) (by omega) (by omega) (by omega)) (a8 i hi)
theorem ok_leave_a {C n : Nat} {z : Nat → Int32} {j : Nat} (hC : 1 ≤ C) (h : rOK C n z) (hj : j < 8) (h10 : z 10 = -1) : rOK C n (lvB z j) := by
  obtain ⟨p1, p2, p3, p4, p5, p6, p7, p8, p9⟩ := lv_parts hC h hj
  refine ⟨h.1, p1, p2, p3, p4, Or.inl ⟨p9.trans h10, fun i hi => ?_⟩, p5, p6⟩
  rw [p7 i hi, vOK_none h.1 h.2.2.2.2.2.1 h10 i hi]
  split <;> rfl
/-- the row after one left, where there is a motion -/
def lvZ (z : Nat → Int32) (n j d : Nat) : Nat → Int32 := if nI d = nI j then mrg (dropZ (lvB z j) n) (endZ (lvB z j)) else mrg (setZ (lvB z j) n d) (lkZ (lvB z j) n d)
theorem ok_leave_b {C n : Nat} {z : Nat → Int32} {j d : Nat} (hC1 : 1 ≤ C) (hC : C ≤ 6000) (h : rOK C n z) (hj : j < 8) (hd : d < n) (h10 : z 10 = nI d) : rOK (C + 10) n (lvZ z n j d) ∧ eqC (disZ z n j d) (lvZ z n j d) ∧ eqM (qz_leave z n j d) (lvZ z n j d) := by
  obtain ⟨p1, p2, p3, p4, p5, p6, p7, p8, p9⟩ := lv_parts hC1 h hj
  have hn := h.1
  unfold lvZ disZ qz_leave
  by_cases e : nI d = nI j
  · rw [if_pos e, if_pos e, if_pos e]
    refine ⟨ok_drop hn p1 p2 p4 p5 (fun i hi => mOK_up (by omega) (p6 i hi)) (fun i h1 h2 => ?_), fun k hk h12 h13 => ?_, fun k hk => ?_⟩
    · rw [p7 i h2]
      split
      · rfl
      · exact vOK_far h.2.2.2.2.2.1 h.2.2.2.2.1 i h1 h2
    · rw [mrg_c h12 h13]; exact dropZ_c (lv_c k hk h12 h13)
    · rw [← mrg_m (ag_drop (z := lvB z j) (n := n)) k hk]; exact endZ_c (lv_m hj k hk)
  · rw [if_neg e, if_neg e, if_neg e]
    have djne : d ≠ j := fun q => e (by rw [q])
    obtain ⟨d2, hd2, e2, hd1, hv⟩ := vOK_some h.2.2.2.2.2.1 (by rw [h10]; exact nI_nm1 (by omega))
    have ed : d2 = d := by
      have := congrArg Int32.toInt (e2.symm.trans h10)
      rw [nI_toInt (by omega), nI_toInt (by omega)] at this
      omega
    subst ed
    have o : rOK C n (lvB z j) := by
      refine ⟨hn, p1, p2, p3, p4, Or.inr ⟨d2, hd, p9.trans h10, ?_, fun i hi => ?_⟩, p5, p6⟩
      · rw [p8 d2 (by omega), if_neg djne]; exact hd1
      · rw [p7 i hi, p8 i hi]
        by_cases c : i = j
        · rw [if_pos c, if_pos c]; exact ⟨Or.inl rfl, fun q => absurd rfl q⟩
        · rw [if_neg c, if_neg c]; exact hv i hi
    obtain ⟨r1, r2, r3⟩ := ok_settle hC o hd (p9.trans h10)
    refine ⟨r1, fun k hk h12 h13 => ?_, fun k hk => ?_⟩
    · rw [mrg_c h12 h13]; exact setZ_c hn (by omega) lv_c k hk h12 h13
    · rw [← mrg_m r2 k hk]; exact lkZ_c hn (by omega) (lv_m hj) k hk
