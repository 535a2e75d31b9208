/-! What holds after each act, in numbers. -/
/-- common account and balances come to what was forgiven -/
abbrev smS (z : Nat → Int32) (n : Nat) : Prop := z 6 + sumF z 1 n = z 7
def pI (k n : Nat) (z : Nat → Int32) (nx kp : Nat) : Prop := rOK (1 + 10 * k) n z ∧ n ≤ 4 ∧ min k 2 ≤ n ∧ nx < 6 ∧ kp ≤ 6 ∧ (∃ w, w ≤ 6 * k ∧ z 8 = nI w) ∧ smS z n
def pG (cI cC cM cB : ClassId) (ad t : Nat → Nat) (sg : Nat → Int32) (sz : Int32) (r : Nat → Int32) (x : Nat) (h : Nat → Nat) (ah : Nat → Nat → Nat) (na ma : Nat) (wr : va_W) (k : Nat) (w2 : va_W) : Prop := ∃ (n : Nat) (z : Nat → Int32) (zh : Nat → Nat → Int32) (nx kp : Nat), pI k n z nx kp ∧ w2 = xw0 cI cC cM cB ad z t sg sz r x h ah (nI nx) (nI kp) zh (lwS cI na ma z kp wr)
theorem sumF_c {a b : Nat → Int32} {w : Nat} : ∀ i : Nat, (∀ j, j < i → a (14 + 16 * j + w) = b (14 + 16 * j + w)) → sumF a w i = sumF b w i
  | 0, _ => rfl
  | i + 1, h => by rw [sumF, sumF, sumF_c i (fun j hj => h j (by omega)), h i (by omega)]
/-- one term changes -/
theorem sumF_d {a b : Nat → Int32} {w j : Nat} {d : Int32} (hj : a (14 + 16 * j + w) = b (14 + 16 * j + w) + d) : ∀ i : Nat, (∀ q, q < i → q ≠ j → a (14 + 16 * q + w) = b (14 + 16 * q + w)) → sumF a w i = sumF b w i + (if j < i then d else 0)
  | 0, _ => by rw [if_neg (by omega)]; rfl
  | i + 1, h => by
    rw [sumF, sumF, sumF_d hj i (fun q hq => h q (by omega))]
    by_cases e : j = i
    · subst e
      rw [hj, if_neg (by omega), if_pos (by omega)]
      grind
    · rw [h i (by omega) (fun q => e q.symm)]
      by_cases c : j < i
      · rw [if_pos c, if_pos (by omega)]; grind
      · rw [if_neg c, if_neg (by omega)]; grind
section PI
variable {k n nx kp kl : Nat} {z z2 zc zl : Nat → Int32} {zh : Nat → Nat → Int32}
theorem smS_c {a b : Nat → Int32} (hn : n ≤ 8) (h : ∀ q, q < 142 → a q = b q) (s : smS b n) : smS a n := by
  unfold smS
  rw [h 6 (by omega), h 7 (by omega), sumF_c n (fun j hj => h _ (by omega))]
  exact s
theorem pg_mk {cI cC cM cB : ClassId} {ad t : Nat → Nat} {sg : Nat → Int32} {sz : Int32} {r : Nat → Int32} {x : Nat} {h : Nat → Nat} {ah : Nat → Nat → Nat} {na ma : Nat} {wr : va_W} (p : pI k n z2 nx kp) (hc : eqC zc z2) (hl : ∀ q, q < 142 → zl q = z2 q) (hk : kl = kp) : pG cI cC cM cB ad t sg sz r x h ah na ma wr k (xw0 cI cC cM cB ad zc t sg sz r x h ah (nI nx) (nI kp) zh (lwS cI na ma zl kl wr)) := by
  subst hk
  refine ⟨n, z2, zh, nx, kl, p, ?_⟩
  rw [lwS_congr (fun q hq => hl q (by omega))]
  exact bkW_congr hc
theorem pI_same (h : pI k n z nx kp) (h2 : 2 ≤ n) : pI (k + 1) n z nx kp := by
  obtain ⟨a1, a2, a3, a4, a5, ⟨w, hw, ew⟩, a7⟩ := h
  exact ⟨rOK_up (by omega) a1, a2, by omega, a4, a5, ⟨w, by omega, ew⟩, a7⟩
/-- a call that saves a state -/
theorem pI_save {n2 : Nat} (h : pI k n z nx kp) (hn : n2 ≤ 4) (h2 : min (k + 1) 2 ≤ n2) (hR : rOK (1 + 10 * k + 10) n2 z2) (h8 : z2 8 = z 8) (hs : smS z2 n2) : pI (k + 1) n2 z2 ((nx + 1) % 6) (min (kp + 1) 6) := by
  obtain ⟨a1, a2, a3, a4, a5, ⟨w, hw, ew⟩, a7⟩ := h
  exact ⟨rOK_up (by omega) hR, hn, h2, by omega, by omega, ⟨w, by omega, h8.trans ew⟩, hs⟩
theorem sm_join (hn : n < 8) (s : smS z n) : smS (admZ z n) (n + 1) := by
  unfold smS at s ⊢
  have e : ∀ j, j < n → admZ z n (14 + 16 * j + 1) = z (14 + 16 * j + 1) := fun j hj => by unfold admZ; simp (disch := omega) only [upd_ne]
  have e6 : admZ z n 6 = z 6 - z 1 := by unfold admZ; rw [upd_eq rfl]
  have e7 : admZ z n 7 = z 7 := by unfold admZ; simp (disch := omega) only [upd_ne]
  have en : admZ z n (14 + 16 * n + 1) = z 1 := by unfold admZ; simp (disch := omega) only [upd_eq, upd_ne]
  rw [sumF, sumF_c n e, e6, e7, en, ← s]
  grind
theorem ps_join (h : pI k n z nx kp) (h4 : n < 4) : pI (k + 1) (n + 1) (admZ z n) ((nx + 1) % 6) (min (kp + 1) 6) :=
  pI_save h (by omega) (by have := h.2.2.1; omega) (ok_join h.1 (by omega)) (by unfold admZ; simp (disch := omega) only [upd_ne]) (sm_join (by omega) h.2.2.2.2.2.2)
theorem sm_pay {j : Nat} {mn : Int32} (hj : j < n) (s : smS z n) : smS (payZ z j mn) n := by
  unfold smS at s ⊢
  have e6 : payZ z j mn 6 = z 6 + mn := by unfold payZ; rw [upd_eq rfl]
  have e7 : payZ z j mn 7 = z 7 := by unfold payZ; simp (disch := omega) only [upd_ne]
  have ej : payZ z j mn (14 + 16 * j + 1) = z (14 + 16 * j + 1) + (-mn) := by unfold payZ; rw [upd_ne (by omega), upd_eq rfl, Int32.sub_eq_add_neg]
  rw [sumF_d ej n (fun q hq hqj => by unfold payZ; simp (disch := omega) only [upd_ne]), if_pos hj, e6, e7, ← s]
  grind
theorem ps_pay {j : Nat} {mn : Int32} (hk : k < 60) (h : pI k n z nx kp) (h2 : 2 ≤ n) (hj : j < n) (hm : bt mn 1 999) (hb : ¬ (z (14 + 16 * j + 1) < mn)) : pI (k + 1) n (payZ z j mn) ((nx + 1) % 6) (min (kp + 1) 6) :=
  pI_save h h.2.1 (by omega) (rOK_up (by omega) (ok_pay (by omega) h.1 (by have := h.2.1; omega) hm hb)) (by unfold payZ; simp (disch := omega) only [upd_ne]) (sm_pay hj h.2.2.2.2.2.2)
theorem ps_set {st : Nat} {v : Int32} (h : pI k n z nx kp) (h2 : 2 ≤ n) (hst : st < 5) (hv : inP v 0 (gsA st)) : pI (k + 1) n (upd z st v) ((nx + 1) % 6) (min (kp + 1) 6) :=
  pI_save h h.2.1 (by omega) (rOK_up (by omega) (ok_set h.1 hst hv)) (upd_ne (by omega)) (by
    have s := h.2.2.2.2.2.2
    unfold smS at s ⊢
    rw [upd_ne (by omega), upd_ne (by omega), sumF_c (b := z) n (fun j hj => upd_ne (by omega))]
    exact s)
/-- a deal, in the law's order -/
def givL (z : Nat → Int32) (a b s : Nat) (mn v p : Int32) : Nat → Int32 :=
  upd (upd (upd (upd (upd (upd (upd (upd (upd (upd (upd (upd z (14 + 16 * a + 1) (z (14 + 16 * a + 1) + (v - p))) (14 + 16 * a + 2) (z (14 + 16 * a + 2) - p)) 6 (z 6 + p)) (14 + 16 * a + 4) 1) (14 + 16 * a + 5) (z (14 + 16 * a + 5) + mn)) (14 + 16 * a + 7) (z (14 + 16 * a + 7) + v)) (25 + 16 * a + s) (minP (z (25 + 16 * a + s) + mn) 9999)) (14 + 16 * b + 1) (z (14 + 16 * b + 1) - v)) (14 + 16 * b + 4) 1) (14 + 16 * b + 6) (z (14 + 16 * b + 6) + mn)) (14 + 16 * b + 8) (z (14 + 16 * b + 8) + v)) 9 (z 9 + 1)
theorem giv_eq {a b s : Nat} {mn : Int32} (hab : a ≠ b) (hs : s < 5) : ∀ q, givL z a b s mn (valP (z (25 + 16 * a + s)) mn) (minP (valP (z (25 + 16 * a + s)) mn / 2) (z (14 + 16 * a + 2))) q = dealZ z a b s mn q := by
  intro q
  unfold givL dealZ
  generalize valP (z (25 + 16 * a + s)) mn = v
  generalize minP (v / 2) (z (14 + 16 * a + 2)) = p
  by_cases h1 : q = 14 + 16 * a + 1
  · subst h1; simp (disch := omega) only [upd_eq, upd_ne]; grind
  by_cases h2 : q = 14 + 16 * a + 2
  · subst h2; simp (disch := omega) only [upd_eq, upd_ne]
  by_cases h3 : q = 6
  · subst h3; simp (disch := omega) only [upd_eq, upd_ne]
  by_cases h4 : q = 14 + 16 * a + 4
  · subst h4; simp (disch := omega) only [upd_eq, upd_ne]
  by_cases h5 : q = 14 + 16 * a + 5
  · subst h5; simp (disch := omega) only [upd_eq, upd_ne]
  by_cases h6 : q = 14 + 16 * a + 7
  · subst h6; simp (disch := omega) only [upd_eq, upd_ne]
  by_cases h7 : q = 25 + 16 * a + s
  · subst h7; simp (disch := omega) only [upd_eq, upd_ne]
  by_cases h8 : q = 14 + 16 * b + 1
  · subst h8; simp (disch := omega) only [upd_eq, upd_ne]
  by_cases h9 : q = 14 + 16 * b + 4
  · subst h9; simp (disch := omega) only [upd_eq, upd_ne]
  by_cases h10 : q = 14 + 16 * b + 6
  · subst h10; simp (disch := omega) only [upd_eq, upd_ne]
  by_cases h11 : q = 14 + 16 * b + 8
  · subst h11; simp (disch := omega) only [upd_eq, upd_ne]
  by_cases h12 : q = 9
  · subst h12; simp (disch := omega) only [upd_eq, upd_ne]
  simp (disch := omega) only [upd_ne]
theorem sm_deal {a b s : Nat} {mn : Int32} (hab : a ≠ b) (hs : s < 5) (ha : a < n) (hb : b < n) (sm : smS z n) : smS (dealZ z a b s mn) n := by
  unfold smS at sm ⊢
  have g := giv_eq (z := z) (mn := mn) hab hs
  generalize hv : valP (z (25 + 16 * a + s)) mn = v at g
  generalize hp : minP (v / 2) (z (14 + 16 * a + 2)) = p at g
  have e6 : dealZ z a b s mn 6 = z 6 + p := by rw [← g]; unfold givL; simp (disch := omega) only [upd_eq, upd_ne]
  have e7 : dealZ z a b s mn 7 = z 7 := by rw [← g]; unfold givL; simp (disch := omega) only [upd_ne]
  have ea : dealZ z a b s mn (14 + 16 * a + 1) = z (14 + 16 * a + 1) + (v - p) := by rw [← g]; unfold givL; simp (disch := omega) only [upd_eq, upd_ne]
  have eb : dealZ z a b s mn (14 + 16 * b + 1) = z (14 + 16 * b + 1) - v := by rw [← g]; unfold givL; simp (disch := omega) only [upd_eq, upd_ne]
  have eo : ∀ j, j ≠ a → j ≠ b → dealZ z a b s mn (14 + 16 * j + 1) = z (14 + 16 * j + 1) := fun j h1 h2 => by rw [← g]; unfold givL; simp (disch := omega) only [upd_ne]
  have s1 := sumF_d (a := upd z (14 + 16 * b + 1) (z (14 + 16 * b + 1) - v)) (b := z) (w := 1) (j := b) (d := -v) (by rw [upd_eq rfl, Int32.sub_eq_add_neg]) n (fun q hq hqb => upd_ne (by omega))
  have s2 := sumF_d (a := dealZ z a b s mn) (b := upd z (14 + 16 * b + 1) (z (14 + 16 * b + 1) - v)) (w := 1) (j := a) (d := v - p) (by rw [ea, upd_ne (by omega)]) n (fun q hq hqa => by
    by_cases c : q = b
    · subst c; rw [eb, upd_eq rfl]
    · rw [eo q hqa c, upd_ne (by omega)])
  rw [if_pos hb] at s1
  rw [if_pos ha, s1] at s2
  rw [s2, e6, e7, ← sm]
  grind
theorem ps_give {a b s : Nat} {mn : Int32} (hk : k < 60) (h : pI k n z nx kp) (h2 : 2 ≤ n) (ha : a < n) (hb : b < n) (hab : a ≠ b) (hs : s < 5) (hm : bt mn 1 600) (hal : ¬ (z (14 + 16 * b + 1) - valP (z (25 + 16 * a + s)) mn < -(z 0))) : pI (k + 1) n (dealZ z a b s mn) ((nx + 1) % 6) (min (kp + 1) 6) :=
  pI_save h h.2.1 (by omega) (rOK_up (by omega) (ok_deal (by omega) h.1 (by have := h.2.1; omega) (by have := h.2.1; omega) hab hs hm hal)) (by rw [← giv_eq hab hs]; unfold givL; simp (disch := omega) only [upd_ne]) (sm_deal hab hs ha hb h.2.2.2.2.2.2)
/-! The look at a motion: law and reference. -/
theorem lk4_eq {C d : Nat} (h : rOK C n z) (hn : n ≤ 4) (hdn : d < n) (h10 : z 10 = nI d) : lk4R z n d = lkR z n d ∧ lk4Z z n d = lkZ z n d := by
  obtain ⟨e1, e2⟩ := one8 h hn
  have t := there_eq h.2.2.1 n (by omega)
  obtain ⟨d2, hd2, q2, hd1, hv⟩ := vOK_some h.2.2.2.2.2.1 (by rw [h10]; exact nI_nm1 (by omega))
  have ed : d2 = d := by
    have := congrArg Int32.toInt (q2.symm.trans h10)
    rw [nI_toInt (by omega), nI_toInt (by omega)] at this
    omega
  subst ed
  have hd0 : ¬ z (14 + 16 * d2) = 0 := by rw [hd1]; decide
  have b1 := nB_lt (kd := 1) (by decide) (fun i hi => (hv i hi).2) hd0 n (by omega)
  rw [if_pos hdn] at b1
  have tl := nT_le (z := z) n
  have eT : cntT z n - 1 = nI (nT z n - 1) := by rw [nT_eq]; exact pk_sub (a := nT z n) (b := 1) (by omega)
  unfold lk4R lkR lk4Z lkZ
  rw [t, e1, e2, hd1, eT]
  by_cases c : nT z n - 1 = 0
  · rw [c, if_pos (show nI 0 = 0 by decide), if_pos (show nI 0 = 0 by decide), if_neg (show ¬ (0 : Int32) < nI 0 by decide), if_neg (show ¬ (0 : Int32) < nI 0 by decide)]
    exact ⟨rfl, rfl⟩
  · have q0 : (0 : Int32) < nI (nT z n - 1) := (nI_lti (a := 0) (by omega) (by omega)).mpr (by omega)
    rw [if_neg (nI_n0 (by omega) (by omega)), if_neg (nI_n0 (by omega) (by omega)), if_pos q0, if_pos q0]
    exact ⟨rfl, rfl⟩
theorem lk4_c {a b : Nat → Int32} {d : Nat} (hn : n ≤ 8) (hd : d < 8) (h : eqM a b) : lk4R a n d = lk4R b n d ∧ eqM (lk4Z a n d) (lk4Z b n d) := by
  have s := sumF_c (a := a) (b := b) (w := 0) n (fun j hj => h _ (by omega))
  unfold lk4R lk4Z
  rw [s, h (14 + 16 * d) (by omega), h 12 (by omega), h 13 (by omega)]
  refine ⟨rfl, fun k hk => ?_⟩
  split
  · exact h k hk
  · split
    · rw [h (14 + 16 * d + 1) (by omega), h (14 + 16 * d + 10) (by omega), h 7 (by omega), h 11 (by omega)]
      exact endZ_c (upd_at (upd_at (upd_at (h k hk))))
    · split
      · exact h k hk
      · exact endZ_c (h k hk)
theorem lk4_nn {d : Nat} : ¬ lk4R z n d < 0 := by
  unfold lk4R
  split
  · decide
  · split
    · decide
    · split <;> decide
theorem endZ_10 : endZ z 10 = -1 := by unfold endZ; rw [upd_ne (by decide), upd_ne (by decide), upd_ne (by decide), upd_eq rfl]
theorem sm_end (hn : n ≤ 8) (s : smS z n) : smS (endZ z) n := by
  unfold smS at s ⊢
  rw [endZ_at (by omega), endZ_at (by omega), sumF_c (b := z) n (fun j hj => endZ_at (by omega))]
  exact s
theorem sm_look {d : Nat} (hn : n ≤ 8) (hd : d < n) (s : smS z n) : smS (lk4Z z n d) n := by
  unfold lk4Z
  split
  · exact s
  · split
    · refine sm_end hn ?_
      unfold smS at s ⊢
      rw [upd_eq rfl, upd_ne (by omega), upd_ne (by omega), upd_ne (by omega)]
      have e := sumF_d (a := upd (upd (upd z (14 + 16 * d + 1) (z (14 + 16 * d + 1) + z 11)) (14 + 16 * d + 10) (z (14 + 16 * d + 10) + z 11)) 7 (z 7 + z 11)) (b := z) (w := 1) (j := d) (d := z 11) (by simp (disch := omega) only [upd_eq, upd_ne]) n (fun q hq hqd => by simp (disch := omega) only [upd_ne])
      rw [if_pos hd] at e
      rw [e, ← s]
      grind
    · split
      · exact s
      · exact sm_end hn s
theorem lk4_8 {d : Nat} : lk4Z z n d 8 = z 8 := by
  unfold lk4Z
  split
  · rfl
  · split
    · rw [endZ_at (by omega)]; simp (disch := omega) only [upd_ne]
    · split
      · rfl
      · exact endZ_at (by omega)
/-! One leaves. -/
theorem sm_out {j : Nat} (hn : n ≤ 8) (hj : j < n) (s : smS z n) : smS (qz_out z j) n := by
  unfold smS at s ⊢
  have e6 : qz_out z j 6 = z 6 + z (14 + 16 * j + 1) := by unfold qz_out; simp (disch := omega) only [upd_eq, upd_ne]
  have e7 : qz_out z j 7 = z 7 := by unfold qz_out; simp (disch := omega) only [upd_ne]
  have ej : qz_out z j (14 + 16 * j + 1) = z (14 + 16 * j + 1) + (-(z (14 + 16 * j + 1))) := by unfold qz_out; simp (disch := omega) only [upd_eq, upd_ne]; grind
  rw [sumF_d ej n (fun q hq hqj => by unfold qz_out; simp (disch := omega) only [upd_ne]), if_pos hj, e6, e7, ← s]
  grind
theorem out_8 {j : Nat} : qz_out z j 8 = z 8 := by unfold qz_out; simp (disch := omega) only [upd_ne]
theorem ps_leave_a {j : Nat} (hk : k < 60) (h : pI k n z nx kp) (h2 : 2 ≤ n) (hj : j < n) (h10 : z 10 = -1) : ∃ z2, pI (k + 1) n z2 ((nx + 1) % 6) (min (kp + 1) 6) ∧ eqC (outZ z j) z2 ∧ ∀ q, q < 142 → qz_out z j q = z2 q := by
  have n4 := h.2.1
  have e := lv_m (z := z) (j := j) (by omega)
  exact ⟨lvB z j, pI_save h n4 (by omega) (rOK_up (by omega) (ok_leave_a (by omega) h.1 (by omega) h10)) ((e 8 (by omega)).symm.trans out_8) (smS_c (by omega) (fun q hq => (e q hq).symm) (sm_out (by omega) hj h.2.2.2.2.2.2)), lv_c, e⟩
theorem lv_ok {C j d : Nat} (hC : 1 ≤ C) (h : rOK C n z) (hj : j < 8) (hd : d < n) (h10 : z 10 = nI d) (hne : d ≠ j) : rOK C n (lvB z j) := by
  obtain ⟨p1, p2, p3, p4, p5, p6, p7, p8, p9⟩ := lv_parts hC h hj
  have hn := h.1
  obtain ⟨d2, hd2, e2, hd1, hv⟩ := vOK_some h.2.2.2.2.2.1 (by rw [h10]; exact nI_nm1 (by omega))
  have ed : d2 = d := by
    have := congrArg Int32.toInt (e2.symm.trans h10)
    rw [nI_toInt (by omega), nI_toInt (by omega)] at this
    omega
  subst ed
  refine ⟨hn, p1, p2, p3, p4, Or.inr ⟨d2, hd, p9.trans h10, ?_, fun i hi => ?_⟩, p5, p6⟩
  · rw [p8 d2 (by omega), if_neg hne]; exact hd1
  · rw [p7 i hi, p8 i hi]
    by_cases c : i = j
    · rw [if_pos c, if_pos c]; exact ⟨Or.inl rfl, fun q => absurd rfl q⟩
    · rw [if_neg c, if_neg c]; exact hv i hi
theorem ps_leave_b {j d : Nat} (hk : k < 60) (h : pI k n z nx kp) (h2 : 2 ≤ n) (hj : j < n) (hd : d < n) (h10 : z 10 = nI d) : ∃ z2, pI (k + 1) n z2 ((nx + 1) % 6) (min (kp + 1) 6) ∧ eqC (disZ z n j d) z2 ∧ (nI d = nI j → ∀ q, q < 142 → endZ (qz_out z j) q = z2 q) ∧ (¬ nI d = nI j → ∀ q, q < 142 → lk4Z (qz_out z j) n d q = z2 q) := by
  have n4 := h.2.1
  have s := sm_out (by omega) hj h.2.2.2.2.2.2
  obtain ⟨r1, r2, r3⟩ := ok_leave_b (by omega) (by omega) h.1 (show j < 8 by omega) hd h10
  have a : nI d = nI j → ∀ q, q < 142 → endZ (qz_out z j) q = lvZ z n j d q := fun e q hq => by
    have := r3 q hq
    unfold qz_leave at this
    rw [if_pos e] at this; exact this
  have b : ¬ nI d = nI j → ∀ q, q < 142 → lk4Z (qz_out z j) n d q = lvZ z n j d q := fun e q hq => by
    have hne : d ≠ j := fun q => e (by rw [q])
    have em := lv_m (z := z) (j := j) (by omega)
    have o := lv_ok (by omega) h.1 (show j < 8 by omega) hd h10 hne
    have p9 := (lv_parts (by omega) h.1 (show j < 8 by omega)).2.2.2.2.2.2.2.2
    have := r3 q hq
    unfold qz_leave at this
    rw [if_neg e] at this
    rw [← this, (lk4_c (by omega) (by omega) em).2 q hq, (lk4_eq o n4 hd (p9.trans h10)).2]
    exact (lkZ_c (by omega) (by omega) em q hq).symm
  refine ⟨lvZ z n j d, pI_save h n4 (by omega) r1 ?_ ?_, r2, a, b⟩
  · by_cases e : nI d = nI j
    · rw [← a e 8 (by omega), endZ_at (by omega), out_8]
    · rw [← b e 8 (by omega), lk4_8, out_8]
  · by_cases e : nI d = nI j
    · exact smS_c (by omega) (fun q hq => (a e q hq).symm) (sm_end (by omega) s)
    · exact smS_c (by omega) (fun q hq => (b e q hq).symm) (sm_look (by omega) hd s)
/-! Motions and votes. -/
theorem ps_move {d : Nat} {mn : Int32} (h : pI k n z nx kp) (h2 : 2 ≤ n) (hd : d < n) (hm : ¬ (mn < 1)) (ha : alwM z d mn) : pI (k + 1) n (upd (upd z 10 (nI d)) 11 mn) ((nx + 1) % 6) (min (kp + 1) 6) :=
  pI_save h h.2.1 (by omega) (rOK_up (by omega) (ok_move h.1 hd hm ha).1) (by simp (disch := omega) only [upd_ne]) (by
    have s := h.2.2.2.2.2.2
    unfold smS at s ⊢
    rw [upd_ne (by omega), upd_ne (by omega), upd_ne (by omega), upd_ne (by omega), sumF_c (b := z) n (fun j hj => by simp (disch := omega) only [upd_ne])]
    exact s)
theorem ps_take (h : pI k n z nx kp) (h2 : 2 ≤ n) : ∃ z2, pI (k + 1) n z2 ((nx + 1) % 6) (min (kp + 1) 6) ∧ eqC (dropZ z n) z2 ∧ ∀ q, q < 142 → endZ z q = z2 q := by
  obtain ⟨a1, a2, a3, a4, ht5, hv6, hs7, hm8⟩ := id h.1
  have e : eqM (endZ z) (mrg (dropZ z n) (endZ z)) := mrg_m ag_drop
  exact ⟨_, pI_save h h.2.1 (by omega) (rOK_up (by omega) (ok_drop a1 a2 a3 ht5 hs7 hm8 (vOK_far hv6 ht5))) ((e 8 (by omega)).symm.trans (endZ_at (by omega))) (smS_c a1 (fun q hq => (e q hq).symm) (sm_end a1 h.2.2.2.2.2.2)), fun k _ h12 h13 => (mrg_c h12 h13).symm, e⟩
theorem vt_10 {bf : Int32} {j : Nat} (hj : j < 8) : vtB z j bf 10 = z 10 := by
  unfold vtB
  split
  · rw [upd_ne (by decide), upd_ne (by omega)]
  · rw [upd_ne (by decide), upd_ne (by omega)]
theorem sm_vote {j : Nat} {bf : Int32} (s : smS z n) (hn : n ≤ 8) : smS (qz_vote z j bf) n := by
  unfold smS at s ⊢
  unfold qz_vote
  split
  · rw [upd_ne (by omega), upd_ne (by omega), sumF_c (b := z) n (fun j hj => upd_ne (by omega))]; exact s
  · rw [upd_ne (by omega), upd_ne (by omega), sumF_c (b := z) n (fun j hj => upd_ne (by omega))]; exact s
theorem ps_vote {j d : Nat} {bf : Int32} (hk : k < 60) (h : pI k n z nx kp) (h2 : 2 ≤ n) (hj : j < n) (hd : d < n) (h10 : z 10 = nI d) (hc : cvP z j) : ∃ z2, pI (k + 1) n z2 ((nx + 1) % 6) (min (kp + 1) 6) ∧ eqC (setZ (upd z (142 + j) (if bf = 0 then 2 else 1)) n d) z2 ∧ (∀ q, q < 142 → lk4Z (qz_vote z j bf) n d q = z2 q) ∧ setR (upd z (142 + j) (if bf = 0 then 2 else 1)) n = lk4R (qz_vote z j bf) n d := by
  have n4 := h.2.1
  have hn : n ≤ 8 := by omega
  have o9 := ok_vote (bf := bf) (by omega) h.1 hd h10 (show j < 8 by omega) hc
  have h109 : vtB z j bf 10 = nI d := (vt_10 (by omega)).trans h10
  obtain ⟨hZ, sA, sR⟩ := ok_settle (by omega) o9 hd h109
  have c4 := lk4_c (n := n) (d := d) hn (by omega) (vt_m (z := z) (bf := bf) (j := j))
  have e4 := lk4_eq o9 n4 hd h109
  have em : ∀ q, q < 142 → lk4Z (qz_vote z j bf) n d q = mrg (setZ (vtB z j bf) n d) (lkZ (vtB z j bf) n d) q := fun q hq => by
    rw [c4.2 q hq, e4.2]; exact mrg_m sA q hq
  refine ⟨_, pI_save h n4 (by omega) hZ ?_ (smS_c hn (fun q hq => (em q hq).symm) (sm_look hn hd (sm_vote h.2.2.2.2.2.2 hn))), fun k hk h12 h13 => (setZ_c hn (by omega) vt_c k hk h12 h13).trans (mrg_c h12 h13).symm, em, ?_⟩
  · rw [← em 8 (by omega), lk4_8]
    unfold qz_vote
    split <;> rw [upd_ne (by omega)]
  · exact (setR_c hn vt_c).trans (sR.trans (e4.1.symm.trans c4.1.symm))
end PI
