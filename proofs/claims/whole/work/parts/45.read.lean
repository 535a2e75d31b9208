/-! Reading a row of deals: class and reference sign by sign. -/
def rdL (r : Nat → Int32) (st : Tst) : Prop := ∃ d : Nat, d ≤ 5 ∧ r 0 = nI d ∧ st.2.1 5 = nI d ∧ (1 ≤ d → r 1 = st.1 (4 * st.2.2)) ∧ (3 ≤ d → r 2 = st.1 (4 * st.2.2 + 1)) ∧ (4 ≤ d → r 3 = st.1 (4 * st.2.2 + 2)) ∧ (d < 5 → r 4 = 0) ∧ (d = 5 → (r 4 = 0 ∧ st.2.1 4 = -1) ∨ (bt (r 4) 1 600 ∧ st.2.1 4 = r 4 ∧ st.1 (4 * st.2.2 + 3) = r 4))
theorem rdL_mk {r p m : Nat → Int32} {rd d : Nat} (hd : d ≤ 5) (h0 : r 0 = nI d) (h5 : m 5 = nI d) (p1 : 1 ≤ d → r 1 = p (4 * rd)) (p3 : 3 ≤ d → r 2 = p (4 * rd + 1)) (p4 : 4 ≤ d → r 3 = p (4 * rd + 2)) (p5 : d < 5 → r 4 = 0) (p6 : d = 5 → (r 4 = 0 ∧ m 4 = -1) ∨ (bt (r 4) 1 600 ∧ m 4 = r 4 ∧ p (4 * rd + 3) = r 4)) : rdL r (p, m, rd) := ⟨d, hd, h0, h5, p1, p3, p4, p5, p6⟩
theorem rdL_0 {r pa mr : Nat → Int32} : rdL (rstR r) (tM0 pa mr) := by
  unfold tM0
  exact rdL_mk (d := 0) (by decide) rst_0 (upd_eq rfl) (fun q => absurd q (by decide)) (fun q => absurd q (by decide)) (fun q => absurd q (by decide)) (fun _ => rst_4) (fun q => absurd q (by decide))
theorem ah_iff {x : Int32} (hx : bt x 33 126) : inP (x - 97) 0 7 ↔ inP x 97 104 := by
  have h97 : (97 : Int32).toInt = 97 := by decide
  have h0 : (0 : Int32).toInt = 0 := by decide
  have h7 : (7 : Int32).toInt = 7 := by decide
  have h104 : (104 : Int32).toInt = 104 := by decide
  have e : (x - 97).toInt = x.toInt - 97 := by rw [t_sub (by omega) (by omega), h97]
  unfold inP
  rw [t_lt, t_lt, t_lt, t_lt, e, h97, h0, h7, h104]
  omega
theorem n5_of {a : Int32} {d : Nat} (hd : d ≤ 5) (h : a = nI d) : a = 5 ↔ d = 5 := by
  have : d = 0 ∨ d = 1 ∨ d = 2 ∨ d = 3 ∨ d = 4 ∨ d = 5 := by omega
  subst h
  rcases this with rfl | rfl | rfl | rfl | rfl | rfl <;> decide
theorem rdL_s {r : Nat → Int32} {st : Tst} {x : Int32} (hx : bt x 33 126) (h : rdL r st) : tkV r x = tMv st x ∧ (¬ tkV r x = 0 → rdL (tkR r x) (tMs st x)) := by
  obtain ⟨d, hd, h0, h5, p1, p3, p4, p5, p6⟩ := h
  have : d = 0 ∨ d = 1 ∨ d = 2 ∨ d = 3 ∨ d = 4 ∨ d = 5 := by omega
  rcases this with rfl | rfl | rfl | rfl | rfl | rfl
  · refine ⟨?_, fun c => ?_⟩
    · rw [tkV_0 h0, tMv_0 h5]; exact bI_iff (ah_iff hx)
    · rw [tkV_0 h0] at c
      rw [tMs_0 h5]
      have e : tkR r x = upd (upd r 1 (x - 97)) 0 1 := by rw [tkR_0 h0, if_pos (bI_1 c)]
      rw [e]
      exact rdL_mk (d := 1) (by decide) (upd_eq rfl) (upd_eq rfl) (fun _ => by rw [upd_ne (by decide), upd_eq rfl]; exact (upd_eq rfl).symm) (fun q => absurd q (by decide)) (fun q => absurd q (by decide)) (fun _ => by rw [upd_ne (by decide), upd_ne (by decide)]; exact p5 (by decide)) (fun q => absurd q (by decide))
  · refine ⟨?_, fun c => ?_⟩
    · rw [tkV_1 h0, tMv_1 h5]
    · rw [tkV_1 h0] at c
      rw [tMs_1 h5]
      have e : tkR r x = upd r 0 (r 0 + 1) := by rw [tkR_1 h0, if_pos (bI_1 c)]
      rw [e, h0]
      exact rdL_mk (d := 2) (by decide) (upd_eq rfl) (upd_eq rfl) (fun _ => by rw [upd_ne (by decide)]; exact p1 (by decide)) (fun q => absurd q (by decide)) (fun q => absurd q (by decide)) (fun _ => by rw [upd_ne (by decide)]; exact p5 (by decide)) (fun q => absurd q (by decide))
  · refine ⟨?_, fun c => ?_⟩
    · rw [tkV_2 h0, tMv_2 h5, p1 (by decide)]
      exact bI_iff (and_congr (ah_iff hx) Iff.rfl)
    · rw [tkV_2 h0] at c
      rw [tMs_2 h5]
      have e : tkR r x = upd (upd r 2 (x - 97)) 0 3 := by rw [tkR_2 h0, if_pos (bI_1 c)]
      rw [e]
      exact rdL_mk (d := 3) (by decide) (upd_eq rfl) (upd_eq rfl) (fun _ => by rw [upd_ne (by decide), upd_ne (by decide), upd_ne (by omega)]; exact p1 (by decide)) (fun _ => by rw [upd_ne (by decide), upd_eq rfl]; exact (upd_eq rfl).symm) (fun q => absurd q (by decide)) (fun _ => by rw [upd_ne (by decide), upd_ne (by decide)]; exact p5 (by decide)) (fun q => absurd q (by decide))
  · refine ⟨?_, fun c => ?_⟩
    · rw [tkV_3 h0, tMv_3 h5]
    · rw [tkV_3 h0] at c
      rw [tMs_3 h5]
      have e : tkR r x = upd (upd r 3 (x - 48)) 0 4 := by rw [tkR_3 h0, if_pos (bI_1 c)]
      rw [e]
      exact rdL_mk (d := 4) (by decide) (upd_eq rfl) (upd_eq rfl) (fun _ => by rw [upd_ne (by decide), upd_ne (by decide), upd_ne (by omega)]; exact p1 (by decide)) (fun _ => by rw [upd_ne (by decide), upd_ne (by decide), upd_ne (by omega)]; exact p3 (by decide)) (fun _ => by rw [upd_ne (by decide), upd_eq rfl]; exact (upd_eq rfl).symm) (fun _ => by rw [upd_ne (by decide), upd_ne (by decide)]; exact p5 (by decide)) (fun q => absurd q (by decide))
  · refine ⟨?_, fun c => ?_⟩
    · rw [tkV_4 h0, tMv_4 h5]
    · rw [tkV_4 h0] at c
      rw [tMs_4 h5]
      have e : tkR r x = upd r 0 (r 0 + 1) := by rw [tkR_4 h0, if_pos (bI_1 c)]
      rw [e, h0]
      exact rdL_mk (d := 5) (by decide) (upd_eq rfl) (upd_eq rfl) (fun _ => by rw [upd_ne (by decide)]; exact p1 (by decide)) (fun _ => by rw [upd_ne (by decide)]; exact p3 (by decide)) (fun _ => by rw [upd_ne (by decide)]; exact p4 (by decide)) (fun q => absurd q (by decide)) (fun _ => Or.inl ⟨by rw [upd_ne (by decide)]; exact p5 (by decide), by rw [upd_ne (by decide), upd_eq rfl]⟩)
  · have ho : (st.2.1 5).toInt < 0 ∨ 4 < (st.2.1 5).toInt := by rw [h5]; decide
    have n0 : ¬ r 0 = 0 := by rw [h0]; decide
    have n1 : ¬ r 0 = 1 := by rw [h0]; decide
    have n2 : ¬ r 0 = 2 := by rw [h0]; decide
    have n3 : ¬ r 0 = 3 := by rw [h0]; decide
    have n4 : ¬ r 0 = 4 := by rw [h0]; decide
    have m0 : ¬ st.2.1 5 = 0 := by rw [h5]; decide
    have m1 : ¬ st.2.1 5 = 1 := by rw [h5]; decide
    have m2 : ¬ st.2.1 5 = 2 := by rw [h5]; decide
    have m3 : ¬ st.2.1 5 = 3 := by rw [h5]; decide
    have m4 : ¬ st.2.1 5 = 4 := by rw [h5]; decide
    have hV : tkV r x = if x = 59 then bI (whP r) else bI (inP (x - 48) 0 9 ∧ inP (r 4 * 10 + (x - 48)) 1 600) := by
      unfold tkV; rw [if_neg n0, if_neg n1, if_neg n2, if_neg n3, if_neg n4]
    have hM : tMv st x = if x = 59 ∧ ¬ st.2.1 4 = -1 then 1 else bI (isM st.2.1 (x - 48)) := by
      unfold tMv; rw [if_neg m0, if_neg m1, if_neg m2, if_neg m3, if_neg m4]
    have hR : tkR r x = if x = 59 then (if whP r then rstR r else r) else (if inP (x - 48) 0 9 ∧ inP (r 4 * 10 + (x - 48)) 1 600 then upd r 4 (r 4 * 10 + (x - 48)) else r) := by
      unfold tkR; rw [if_neg n0, if_neg n1, if_neg n2, if_neg n3, if_neg n4]
    have h0i : (0 : Int32).toInt = 0 := by decide
    have h1i : (1 : Int32).toInt = 1 := by decide
    have h600 : (600 : Int32).toInt = 600 := by decide
    have p6 := p6 rfl
    have vm : vM st.2.1 (x - 48) = r 4 * 10 + (x - 48) := by
      unfold vM
      rcases p6 with ⟨a, b⟩ | ⟨a, b, c⟩
      · rw [if_pos b, a, Int32.zero_mul, Int32.zero_add]
      · rw [if_neg (by
          intro q
          rw [b] at q
          have : (r 4).toInt = (-1 : Int32).toInt := by rw [q]
          have e1 : (-1 : Int32).toInt = -1 := by decide
          omega), b, Int32.mul_comm]
    have num : ¬ st.2.1 4 = -1 ↔ whP r := by
      unfold whP
      rw [t_lt, h0i]
      rcases p6 with ⟨a, b⟩ | ⟨a, b, c⟩
      · rw [b, a, h0i]
        exact ⟨fun q => absurd rfl q, fun q => absurd q.2 (by decide)⟩
      · refine ⟨fun _ => ⟨h0, by omega⟩, fun _ q => ?_⟩
        rw [b] at q
        have : (r 4).toInt = (-1 : Int32).toInt := by rw [q]
        have e1 : (-1 : Int32).toInt = -1 := by decide
        omega
    rw [hV, hM, hR]
    by_cases hs : x = 59
    · rw [if_pos hs, if_pos hs]
      by_cases hw : whP r
      · rw [if_pos ⟨hs, num.mpr hw⟩, if_pos hw, bI_t hw]
        refine ⟨rfl, fun _ => ?_⟩
        rw [tMs_5 ho ⟨hs, num.mpr hw⟩]
        exact rdL_mk (d := 0) (by decide) rst_0 (upd_eq rfl) (fun q => absurd q (by decide)) (fun q => absurd q (by decide)) (fun q => absurd q (by decide)) (fun _ => rst_4) (fun q => absurd q (by decide))
      · rw [if_neg (fun q => hw (num.mp q.2)), bI_f hw, bI_f (fun q => absurd q.1 (by rw [hs]; decide))]
        exact ⟨rfl, fun q => absurd rfl q⟩
    · rw [if_neg hs, if_neg hs, if_neg (fun q => hs q.1)]
      have iff : isM st.2.1 (x - 48) ↔ (inP (x - 48) 0 9 ∧ inP (r 4 * 10 + (x - 48)) 1 600) := by unfold isM; rw [vm]
      refine ⟨(bI_iff iff).symm, fun c => ?_⟩
      have c := bI_1 c
      rw [if_pos c, tMs_6 ho (fun q => hs q.1)]
      have nb : nbM st.2.1 (x - 48) = r 4 * 10 + (x - 48) := by unfold nbM; rw [if_pos (iff.mpr c), vm]
      rw [nb]
      have c2 := c.2
      unfold inP at c2
      rw [t_lt, t_lt, h1i, h600] at c2
      exact rdL_mk (d := 5) (by decide) ((upd_ne (by decide)).trans h0) ((upd_ne (by decide)).trans h5) (fun _ => by rw [upd_ne (by decide), upd_ne (by omega)]; exact p1 (by decide)) (fun _ => by rw [upd_ne (by decide), upd_ne (by omega)]; exact p3 (by decide)) (fun _ => by rw [upd_ne (by decide), upd_ne (by omega)]; exact p4 (by decide)) (fun q => absurd q (by decide)) (fun _ => Or.inr ⟨by rw [upd_eq rfl]; exact ⟨by omega, by omega⟩, by rw [upd_eq rfl, upd_eq rfl], by rw [upd_eq rfl, upd_eq rfl]⟩)
theorem rd_eq {sg : Nat → Int32} : ∀ (m i : Nat) (r : Nat → Int32) (st : Tst), rdL r st → (∀ k, i ≤ k → k < i + m → bt (sg k) 33 126) → feN sg r i m = fmN sg st i m ∧ (feN sg r i m = i + m → rdL (feR sg r i m) (fmS sg st i m))
  | 0, i, r, st, h, _ => ⟨rfl, fun _ => h⟩
  | m + 1, i, r, st, h, hT => by
    obtain ⟨v, n⟩ := rdL_s (hT i (by omega) (by omega)) h
    rw [feN, fmN, feR, fmS, ← v]
    by_cases c : tkV r (sg i) = 0
    · rw [if_pos c, if_pos c, if_pos c, if_pos c]
      exact ⟨rfl, fun q => by omega⟩
    · rw [if_neg c, if_neg c, if_neg c, if_neg c]
      obtain ⟨a, b⟩ := rd_eq m (i + 1) _ _ (n c) (fun k h1 h2 => hT k (by omega) (by omega))
      exact ⟨a, fun q => b (by omega)⟩
theorem wh_iff {r : Nat → Int32} {st : Tst} (h : rdL r st) : whP r ↔ (st.2.1 5 = 5 ∧ ¬ st.2.1 4 = -1) := by
  obtain ⟨d, hd, h0, h5, p1, p3, p4, p5, p6⟩ := h
  have h0i : (0 : Int32).toInt = 0 := by decide
  have e1 : (-1 : Int32).toInt = -1 := by decide
  unfold whP
  rw [n5_of hd h0, n5_of hd h5, t_lt, h0i]
  constructor
  · rintro ⟨a, b⟩
    refine ⟨a, fun q => ?_⟩
    rcases p6 a with ⟨x, y⟩ | ⟨x, y, w⟩
    · rw [x, h0i] at b; omega
    · rw [y] at q
      have := congrArg Int32.toInt q
      omega
  · rintro ⟨a, b⟩
    refine ⟨a, ?_⟩
    rcases p6 a with ⟨x, y⟩ | ⟨x, y, w⟩
    · exact absurd y b
    · omega
theorem run_k {sg r pa mr : Nat → Int32} {nb : Nat} (hnb : nb ≤ 60) (hT : ∀ k, k < nb → bt (sg k) 33 126) : kRun sg r nb = kRunM sg pa mr nb ∧ feN sg (rstR r) 0 nb = fmN sg (tM0 pa mr) 0 nb := by
  obtain ⟨a, b⟩ := rd_eq (sg := sg) nb 0 (rstR r) (tM0 pa mr) rdL_0 (fun k _ h => hT k (by omega))
  refine ⟨?_, a⟩
  unfold kRun kRunM whM
  rw [← a]
  have hl := feN_le sg nb (rstR r) 0
  by_cases c : feN sg (rstR r) 0 nb = nb
  · have w := wh_iff (b (by omega))
    have iff : (nI (feN sg (rstR r) 0 nb) = nI nb ∧ whP (feR sg (rstR r) 0 nb)) ↔ (nI (feN sg (rstR r) 0 nb) = nI nb ∧ (fmS sg (tM0 pa mr) 0 nb).2.1 5 = 5 ∧ ¬ (fmS sg (tM0 pa mr) 0 nb).2.1 4 = -1) := and_congr Iff.rfl w
    by_cases q : nI (feN sg (rstR r) 0 nb) = nI nb ∧ whP (feR sg (rstR r) 0 nb)
    · rw [if_pos q, if_pos (iff.mp q)]
    · rw [if_neg q, if_neg (fun p => q (iff.mpr p))]
  · have e : ¬ nI (feN sg (rstR r) 0 nb) = nI nb := nI_neq (by omega) (by omega) c
    rw [if_neg (fun q => e q.1), if_neg (fun q => e q.1)]
/-! Making the deals. -/
theorem tM_stay {st : Tst} {x : Int32} : st.2.2 ≤ (tMs st x).2.2 ∧ ∀ q, q < 4 * st.2.2 → (tMs st x).1 q = st.1 q := by
  unfold tMs
  split
  · exact ⟨Nat.le_refl _, fun q hq => upd_ne (by omega)⟩
  split
  · exact ⟨Nat.le_refl _, fun q hq => rfl⟩
  split
  · exact ⟨Nat.le_refl _, fun q hq => upd_ne (by omega)⟩
  split
  · exact ⟨Nat.le_refl _, fun q hq => upd_ne (by omega)⟩
  split
  · exact ⟨Nat.le_refl _, fun q hq => rfl⟩
  split
  · exact ⟨Nat.le_succ _, fun q hq => rfl⟩
  · exact ⟨Nat.le_refl _, fun q hq => upd_ne (by omega)⟩
theorem sm_stay {tx : Nat → Int32} {st : Tst} {i : Nat} : ∀ k : Nat, (smI tx st i).2.2 ≤ (smI tx st (i + k)).2.2 ∧ ∀ q, q < 4 * (smI tx st i).2.2 → (smI tx st (i + k)).1 q = (smI tx st i).1 q
  | 0 => ⟨Nat.le_refl _, fun _ _ => rfl⟩
  | k + 1 => by
    obtain ⟨a, b⟩ := sm_stay (tx := tx) (st := st) (i := i) k
    obtain ⟨c, d⟩ := tM_stay (st := smI tx st (i + k)) (x := tx (i + k))
    exact ⟨Nat.le_trans a c, fun q hq => (d q (by omega)).trans (b q hq)⟩
theorem fm_acc {sg : Nat → Int32} {st : Tst} : ∀ (m i : Nat), fmN sg (smI sg st i) i m = i + m → (∀ j, i ≤ j → j < i + m → ¬ tMv (smI sg st j) (sg j) = 0) ∧ fmS sg (smI sg st i) i m = smI sg st (i + m)
  | 0, i, _ => ⟨fun j h1 h2 => by omega, rfl⟩
  | m + 1, i, h => by
    rw [fmN] at h
    by_cases c : tMv (smI sg st i) (sg i) = 0
    · rw [if_pos c] at h; omega
    · rw [if_neg c] at h
      obtain ⟨a, b⟩ := fm_acc (sg := sg) (st := st) m (i + 1) (h.trans (by omega))
      refine ⟨fun j h1 h2 => ?_, ?_⟩
      · rcases Nat.lt_or_ge i j with q | q
        · exact a j (by omega) (by omega)
        · have e : j = i := by omega
          rw [e]; exact c
      · rw [fmS, if_neg c, show i + (m + 1) = i + 1 + m by omega]; exact b
theorem rdL_semi {r : Nat → Int32} {st : Tst} (h : rdL r st) (c : ¬ tkV r 59 = 0) : whP r := by
  obtain ⟨d, hd, h0, h5, p1, p3, p4, p5, p6⟩ := h
  have : d = 0 ∨ d = 1 ∨ d = 2 ∨ d = 3 ∨ d = 4 ∨ d = 5 := by omega
  rcases this with rfl | rfl | rfl | rfl | rfl | rfl
  · rw [tkV_0 h0] at c; exact absurd (bI_1 c) (by decide)
  · rw [tkV_1 h0] at c; exact absurd (bI_1 c) (by decide)
  · rw [tkV_2 h0] at c; exact absurd (bI_1 c).1 (by decide)
  · rw [tkV_3 h0] at c; exact absurd (bI_1 c) (by decide)
  · rw [tkV_4 h0] at c; exact absurd (bI_1 c) (by decide)
  · rw [tkV_5 h0, if_pos rfl] at c; exact bI_1 c
theorem rdL_wh {r : Nat → Int32} {st : Tst} (h : rdL r st) (w : whP r) : r 1 = st.1 (4 * st.2.2) ∧ r 2 = st.1 (4 * st.2.2 + 1) ∧ r 3 = st.1 (4 * st.2.2 + 2) ∧ r 4 = st.1 (4 * st.2.2 + 3) ∧ bt (r 4) 1 600 := by
  obtain ⟨d, hd, h0, h5, p1, p3, p4, p5, p6⟩ := h
  have hd5 := (n5_of hd h0).mp w.1
  subst hd5
  have h0i : (0 : Int32).toInt = 0 := by decide
  rcases p6 rfl with ⟨x, y⟩ | ⟨x, y, v⟩
  · have w2 := w.2
    rw [x, t_lt, h0i] at w2; omega
  · exact ⟨p1 (by decide), p3 (by decide), p4 (by decide), v.symm, x⟩
theorem tM_rd {st : Tst} {x : Int32} (h : ¬ x = 59) : (tMs st x).2.2 = st.2.2 := by
  unfold tMs
  split
  · rfl
  split
  · rfl
  split
  · rfl
  split
  · rfl
  split
  · rfl
  split
  · rename_i q; exact absurd q.1 h
  · rfl
theorem tM_rd5 {r : Nat → Int32} {st : Tst} (h : rdL r st) (w : whP r) : (tMs st 59).2.2 = st.2.2 + 1 := by
  obtain ⟨a, b⟩ := (wh_iff h).mp w
  rw [tMs_5 (by rw [a]; decide) ⟨rfl, b⟩]
theorem run_sim {sg R : Nat → Int32} {st0 : Tst} {n N : Nat} (hN : N ≤ 60) (hrL : ∀ i, i ≤ N → rdL (frR sg R i) (smI sg st0 i)) (hac : ∀ i, i < N → ¬ tkV (frR sg R i) (sg i) = 0) (hE : whP (frR sg R N)) (hpart : ∀ p, p < (smI sg st0 N).2.2 + 1 → rdM (smI sg st0 N).1 p) : ∀ (k i : Nat) (z : Nat → Int32) (C : Nat), i + k = N → rOK C n z → C + ((smI sg st0 N).2.2 + 1 - (smI sg st0 i).2.2) ≤ 6000 → (mdX sg R n N z (nI (smI sg st0 i).2.2) i (k + 1)).1 = (mkX (smI sg st0 N).1 n z (smI sg st0 i).2.2 ((smI sg st0 N).2.2 + 1 - (smI sg st0 i).2.2)).1 ∧ (mdX sg R n N z (nI (smI sg st0 i).2.2) i (k + 1)).2.1 = (mkX (smI sg st0 N).1 n z (smI sg st0 i).2.2 ((smI sg st0 N).2.2 + 1 - (smI sg st0 i).2.2)).2 ∧ rOK (C + ((smI sg st0 N).2.2 + 1 - (smI sg st0 i).2.2)) n (mkX (smI sg st0 N).1 n z (smI sg st0 i).2.2 ((smI sg st0 N).2.2 + 1 - (smI sg st0 i).2.2)).1 := by
  have deal : ∀ i, i ≤ N → (i < N → sg i = 59) → ∀ (z : Nat → Int32) (C : Nat), rOK C n z → C ≤ 6000 → (alwQ z n (frR sg R i) ↔ alwA z n (smI sg st0 N).1 (smI sg st0 i).2.2) ∧ dealQ z (frR sg R i) = dealA z (smI sg st0 N).1 (smI sg st0 i).2.2 ∧ (alwA z n (smI sg st0 N).1 (smI sg st0 i).2.2 → rOK (C + 1) n (dealA z (smI sg st0 N).1 (smI sg st0 i).2.2)) ∧ whP (frR sg R i) ∧ (smI sg st0 i).2.2 ≤ (smI sg st0 N).2.2 := by
    intro i hi hs z C hz hC
    have w : whP (frR sg R i) := by
      rcases Nat.lt_or_ge i N with q | q
      · exact rdL_semi (hrL i hi) (by rw [← hs q]; exact hac i q)
      · have e : i = N := by omega
        rw [e]; exact hE
    obtain ⟨e1, e2, e3, e4, e5⟩ := rdL_wh (hrL i hi) w
    have st := sm_stay (tx := sg) (st := st0) (i := i) (N - i)
    rw [show i + (N - i) = N by omega] at st
    have fin : ∀ q, q < 4 → (smI sg st0 i).1 (4 * (smI sg st0 i).2.2 + q) = (smI sg st0 N).1 (4 * (smI sg st0 i).2.2 + q) := fun q hq => by
      rcases Nat.lt_or_ge i N with c | c
      · have s2 := sm_stay (tx := sg) (st := st0) (i := i + 1) (N - (i + 1))
        rw [show i + 1 + (N - (i + 1)) = N by omega] at s2
        have r1 : (smI sg st0 (i + 1)).2.2 = (smI sg st0 i).2.2 + 1 := by
          show (tMs (smI sg st0 i) (sg i)).2.2 = _
          rw [hs c]; exact tM_rd5 (hrL i hi) w
        rw [s2.2 _ (by rw [r1]; omega)]
        show _ = (tMs (smI sg st0 i) (sg i)).1 _
        obtain ⟨a, b⟩ := (wh_iff (hrL i hi)).mp w
        rw [hs c, tMs_5 (by rw [a]; decide) ⟨rfl, b⟩]
      · have e : i = N := by omega
        rw [e]
    have f0 := fin 0 (by omega)
    have f1 := fin 1 (by omega)
    have f2 := fin 2 (by omega)
    have f3 := fin 3 (by omega)
    rw [Nat.add_zero] at f0
    rw [f0] at e1
    rw [f1] at e2
    rw [f2] at e3
    rw [f3] at e4
    have gt : ∀ (q : Nat → Int32) (k : Nat), gT q k = cl (q k) := fun _ _ => rfl
    have a1 : alwQ z n (frR sg R i) ↔ alwA z n (smI sg st0 N).1 (smI sg st0 i).2.2 := by
      unfold alwQ alwA
      rw [gt, gt, gt, e1, e2, e3, e4]
    have a2 : dealQ z (frR sg R i) = dealA z (smI sg st0 N).1 (smI sg st0 i).2.2 := by
      unfold dealQ dealA
      rw [gt, gt, gt, e1, e2, e3, e4]
    refine ⟨a1, a2, fun al => ?_, w, st.1⟩
    obtain ⟨g, t, k, hg, ht, hgt, hk, p0, p1, p2⟩ := hpart (smI sg st0 i).2.2 (by have := st.1; omega)
    rw [e4] at e5
    unfold alwA at al
    unfold dealA
    rw [p0, p1, p2, show cl (nI g) = g from nI_cl8 hg, show cl (nI t) = t from nI_cl8 ht, show cl (nI k) = k from nI_cl8 (by omega)] at al ⊢
    exact ok_deal hC hz hg ht hgt hk e5 al.2.2.2
  intro k
  induction k with
  | zero =>
    intro i z C hi hz hC
    have e : i = N := by omega
    subst e
    obtain ⟨d1, d2, d3, w, -⟩ := deal i (Nat.le_refl _) (fun q => absurd q (Nat.lt_irrefl _)) z C hz (by omega)
    have hf : fq sg R i i = frR sg R i := by unfold fq; rw [Nat.min_self]
    rw [show (smI sg st0 i).2.2 + 1 - (smI sg st0 i).2.2 = 0 + 1 by omega, mdX, mkX, if_pos (Or.inl rfl), hf]
    by_cases c : alwA z n (smI sg st0 i).1 (smI sg st0 i).2.2
    · rw [if_pos c, if_pos (d1.mpr c), mdX, mkX]
      exact ⟨d2, nI_1 _, d3 c⟩
    · rw [if_neg c, if_neg (fun q => c (d1.mp q))]
      exact ⟨rfl, rfl, rOK_up (by omega) hz⟩
  | succ k ih =>
    intro i z C hi hz hC
    have hlt : i < N := by omega
    have nN : ¬ nI i = nI N := nI_neq (by omega) (by omega) (by omega)
    have hf : fq sg R N i = frR sg R i := by unfold fq; rw [show min i N = i by omega]
    rw [mdX, hf]
    by_cases c : sg i = 59
    · obtain ⟨d1, d2, d3, w, le⟩ := deal i (by omega) (fun _ => c) z C hz (by omega)
      have r1 : (smI sg st0 (i + 1)).2.2 = (smI sg st0 i).2.2 + 1 := by
        show (tMs (smI sg st0 i) (sg i)).2.2 = _
        rw [c]; exact tM_rd5 (hrL i (by omega)) w
      have st := (sm_stay (tx := sg) (st := st0) (i := i + 1) (N - (i + 1))).1
      rw [show i + 1 + (N - (i + 1)) = N by omega, r1] at st
      have ef : (smI sg st0 N).2.2 + 1 - (smI sg st0 i).2.2 = ((smI sg st0 N).2.2 + 1 - (smI sg st0 (i + 1)).2.2) + 1 := by rw [r1]; omega
      rw [if_pos (Or.inr c), ef, mkX]
      by_cases al : alwA z n (smI sg st0 N).1 (smI sg st0 i).2.2
      · rw [if_pos al, if_pos (d1.mpr al), d2, nI_1, ← r1]
        have := ih (i + 1) (dealA z (smI sg st0 N).1 (smI sg st0 i).2.2) (C + 1) (by omega) (d3 al) (by omega)
        refine ⟨this.1, this.2.1, rOK_up (by omega) this.2.2⟩
      · rw [if_neg al, if_neg (fun q => al (d1.mp q))]
        exact ⟨rfl, rfl, rOK_up (by omega) hz⟩
    · rw [if_neg (fun q => q.elim nN c)]
      have r1 : (smI sg st0 (i + 1)).2.2 = (smI sg st0 i).2.2 := tM_rd c
      have := ih (i + 1) z C (by omega) hz (by rw [r1]; exact hC)
      rw [r1] at this
      exact this
theorem run_eq {C n nb : Nat} {z sg r pa mr : Nat → Int32} (hnb : nb ≤ 60) (hT : ∀ k, k < nb → bt (sg k) 33 126) (h : rOK C n z) (hC : C + 10 ≤ 6000) (hk : kRunM sg pa mr nb = 0) : (mdX sg (feR sg (rstR r) 0 nb) n nb z 0 0 (nb + 1)).1 = (mkX (fmS sg (tM0 pa mr) 0 nb).1 n z 0 ((fmS sg (tM0 pa mr) 0 nb).2.2 + 1)).1 ∧ (mdX sg (feR sg (rstR r) 0 nb) n nb z 0 0 (nb + 1)).2.1 = (mkX (fmS sg (tM0 pa mr) 0 nb).1 n z 0 ((fmS sg (tM0 pa mr) 0 nb).2.2 + 1)).2 ∧ rOK (C + 10) n (mkX (fmS sg (tM0 pa mr) 0 nb).1 n z 0 ((fmS sg (tM0 pa mr) 0 nb).2.2 + 1)).1 := by
  have w : whM sg pa mr nb := by
    unfold kRunM at hk
    by_cases c : whM sg pa mr nb
    · exact c
    · rw [if_neg c] at hk; exact absurd hk (by decide)
  have hpart := whole_parts hnb w
  obtain ⟨w1, w2, w3⟩ := w
  have hl := fmN_le (tx := sg) nb 0 (tM0 pa mr)
  have e : fmN sg (tM0 pa mr) 0 nb = 0 + nb := by
    rcases Nat.lt_or_ge (fmN sg (tM0 pa mr) 0 nb) nb with q | q
    · exact absurd w1 (nI_neq (by omega) (by omega) (by omega))
    · omega
  obtain ⟨ha, hb⟩ := fm_acc (sg := sg) (st := tM0 pa mr) nb 0 e
  have hb2 : fmS sg (tM0 pa mr) 0 nb = smI sg (tM0 pa mr) nb := hb.trans (by rw [Nat.zero_add])
  rw [hb2] at hpart w2 w3 ⊢
  generalize feR sg (rstR r) 0 nb = R
  have hrL : ∀ i, i ≤ nb → rdL (frR sg R i) (smI sg (tM0 pa mr) i) := by
    intro i
    induction i with
    | zero => exact fun _ => rdL_0
    | succ i ih =>
      intro hi
      have q := rdL_s (hT i (by omega)) (ih (by omega))
      exact q.2 (by rw [q.1]; exact ha i (by omega) (by omega))
  have hac : ∀ i, i < nb → ¬ tkV (frR sg R i) (sg i) = 0 := fun i hi => by
    rw [(rdL_s (hT i hi) (hrL i (by omega))).1]; exact ha i (by omega) (by omega)
  have hE : whP (frR sg R nb) := (wh_iff (hrL nb (Nat.le_refl _))).mpr ⟨w2, w3⟩
  have r10 : (smI sg (tM0 pa mr) nb).2.2 < 10 := tMi_r (smI_i (tx := sg) (pa := pa) (nb := mr 1) rfl nb) (by omega)
  have s := run_sim hnb hrL hac hE hpart nb 0 z C (by omega) h (by show C + ((smI sg (tM0 pa mr) nb).2.2 + 1 - 0) ≤ 6000; omega)
  exact ⟨s.1, s.2.1, rOK_up (by show C + ((smI sg (tM0 pa mr) nb).2.2 + 1 - 0) ≤ _; omega) s.2.2⟩
