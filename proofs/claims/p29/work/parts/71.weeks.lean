/-! Weeks, as the law lets them pass: the number of the week comes last. -/
def pZ (z : Nat → Int32) (n : Nat) : Nat → Nat → Int32
  | 0 => z
  | i + 1 => ewkZ (pZ z n i) n
def pS (z : Nat → Int32) (n : Nat) : Nat → Int32
  | 0 => 0
  | i + 1 => pS z n i + ewkR (pZ z n i) n
section PW
variable {C k n nx kp : Nat} {z y : Nat → Int32}
theorem pZ_at (i : Nat) {q : Nat} (h : q < 14) (h6 : q ≠ 6) : pZ z n i q = z q := by
  induction i with
  | zero => rfl
  | succ i ih => exact (ewkZ_at _ h h6).trans ih
theorem pZ_bool (h : hBool z) : ∀ i : Nat, hBool (pZ z n i)
  | 0 => h
  | i + 1 => ewkZ_bool (pZ_bool h i) n
/-- a week reads and writes nothing at 8 -/
theorem ew_6 {j : Nat} : ewZ z j 6 = z 6 + ewR z j := by
  unfold ewZ ewR
  by_cases c : z 2 < idlP z j
  · rw [if_pos c, if_pos c, rust_val, if_neg (by omega), upd_eq rfl]
  · rw [if_neg c, if_neg c, upd_ne (by omega), upd_ne (by omega), Int32.add_zero]
theorem ewZ_8 {j : Nat} (h : ∀ q, q ≠ 8 → z q = y q) : ∀ q, q ≠ 8 → ewZ z j q = ewZ y j q := by
  intro q hq
  have hm : ∀ p, 14 + 16 * j ≤ p → p < 30 + 16 * j → z p = y p := fun p _ _ => h p (by omega)
  by_cases c : 14 + 16 * j ≤ q ∧ q < 30 + 16 * j
  · exact ewZ_congr (h 2 (by omega)) (h 3 (by omega)) (h 4 (by omega)) hm c.1 c.2
  · by_cases c6 : q = 6
    · subst c6
      rw [ew_6, ew_6, ewR_congr (h 2 (by omega)) (h 3 (by omega)) hm, h 6 (by omega)]
    · rw [ew_off (by omega) (by omega) (by omega) (by omega) (by omega) c6, ew_off (by omega) (by omega) (by omega) (by omega) (by omega) c6, h q hq]
theorem ewR_8 {j : Nat} (h : ∀ q, q ≠ 8 → z q = y q) : ewR z j = ewR y j := ewR_congr (h 2 (by omega)) (h 3 (by omega)) (fun p _ _ => h p (by omega))
theorem ewk_8 (h : ∀ q, q ≠ 8 → z q = y q) : ∀ i : Nat, (∀ q, q ≠ 8 → ewkZ z i q = ewkZ y i q) ∧ ewkR z i = ewkR y i
  | 0 => ⟨h, rfl⟩
  | i + 1 => by
    obtain ⟨a, b⟩ := ewk_8 h i
    rw [ewkZ, ewkZ, ewkR, ewkR, a (14 + 16 * i) (by omega), b, ewR_8 a]
    by_cases c : ewkZ y i (14 + 16 * i) = 0
    · rw [if_pos c, if_pos c, if_pos c]; exact ⟨a, rfl⟩
    · rw [if_neg c, if_neg c, if_neg c]; exact ⟨ewZ_8 a, rfl⟩
theorem pz_wk : ∀ i : Nat, (∀ q, q ≠ 8 → pZ z n i q = wkI z n i q) ∧ pS z n i = wkS z n i
  | 0 => ⟨fun _ _ => rfl, rfl⟩
  | i + 1 => by
    obtain ⟨a, b⟩ := pz_wk i
    have e := ewk_8 (z := pZ z n i) (y := upd (wkI z n i) 8 (wkI z n i 8 + 1)) (fun q hq => by rw [upd_ne hq]; exact a q hq) n
    rw [pZ, pS, wkI, wkS, b, e.2]
    exact ⟨e.1, rfl⟩
theorem wk_8 : ∀ i : Nat, wkI z n i 8 = z 8 + nI i
  | 0 => (Int32.add_zero _).symm
  | i + 1 => by
    have e : ∀ (y : Nat → Int32) (m : Nat), ewkZ y m 8 = y 8 := fun y m => ewkZ_at m (by decide) (by decide)
    rw [wkI, wkZ, e, upd_eq rfl, wk_8 i, ← nI_1, Int32.add_assoc]
theorem pz_fin {w : Nat} : ∀ q, q < 142 → upd (pZ z n w) 8 (z 8 + nI w) q = wkI z n w q := fun q _ => by
  by_cases h : q = 8
  · subst h; rw [upd_eq rfl, wk_8]
  · rw [upd_ne h]; exact (pz_wk w).1 q h
/-- one member's week -/
theorem i1_of {j : Nat} (hB : hBool y) (hj : j < 8) (c : ¬ y (14 + 16 * j) = 1) : y (14 + 16 * j) = 0 := (hB j hj).1.resolve_right c
theorem ewk_no {j : Nat} (hB : hBool (ewkZ y j)) (hj : j < 8) (c : ¬ ewkZ y j (14 + 16 * j) = 1) : ewkZ y j = ewkZ y (j + 1) ∧ ewkR y j = ewkR y (j + 1) := by
  have h := i1_of hB hj c
  rw [ewkZ, if_pos h, ewkR, if_pos h]
  exact ⟨rfl, rfl⟩
theorem idl_1 {j : Nat} (c : y (14 + 16 * j + 4) = 1) : 0 = idlP y j := by
  unfold idlP; rw [if_neg (by rw [c]; decide)]
theorem idl_0 {j : Nat} (hB : hBool y) (hj : j < 8) (c : ¬ y (14 + 16 * j + 4) = 1) : y (14 + 16 * j + 3) + 1 = idlP y j := by
  unfold idlP; rw [if_pos ((hB j hj).2.resolve_right c)]
theorem ewk_few {j : Nat} (c1 : ewkZ y j (14 + 16 * j) = 1) (c2 : ¬ ewkZ y j 2 < idlP (ewkZ y j) j) : upd (upd (ewkZ y j) (14 + 16 * j + 3) (idlP (ewkZ y j) j)) (14 + 16 * j + 4) 0 = ewkZ y (j + 1) ∧ ewkR y j = ewkR y (j + 1) := by
  have h : ¬ ewkZ y j (14 + 16 * j) = 0 := by rw [c1]; decide
  rw [ewkZ, if_neg h, ewkR, if_neg h, ewZ, if_neg c2, ewR, if_neg c2, Int32.add_zero]
  exact ⟨rfl, rfl⟩
/-- the row ahead of the rust, in the law's order -/
def ewL (y : Nat → Int32) (j : Nat) : Nat → Int32 := upd (upd (upd (upd (upd y (14 + 16 * j + 3) (idlP y j)) (14 + 16 * j + 4) 0) (14 + 16 * j + 1) (y (14 + 16 * j + 1) - decP (y (14 + 16 * j + 1)) (y 3))) (14 + 16 * j + 9) (y (14 + 16 * j + 9) + decP (y (14 + 16 * j + 1)) (y 3))) 6 (y 6 + decP (y (14 + 16 * j + 1)) (y 3))
theorem ewL_eq {j : Nat} : ewL y j = upd (upd (upd (upd (upd y (14 + 16 * j + 3) (idlP y j)) (14 + 16 * j + 4) 0) (14 + 16 * j + 9) (y (14 + 16 * j + 9) + decP (y (14 + 16 * j + 1)) (y 3))) (14 + 16 * j + 1) (y (14 + 16 * j + 1) - decP (y (14 + 16 * j + 1)) (y 3))) 6 (y 6 + decP (y (14 + 16 * j + 1)) (y 3)) := by
  funext q
  unfold ewL
  by_cases h6 : q = 6
  · subst h6; rw [upd_eq rfl, upd_eq rfl]
  by_cases h1 : q = 14 + 16 * j + 1
  · subst h1; simp (disch := omega) only [upd_eq, upd_ne]
  by_cases h9 : q = 14 + 16 * j + 9
  · subst h9; simp (disch := omega) only [upd_eq, upd_ne]
  rw [upd_ne h6, upd_ne h9, upd_ne h1, upd_ne h6, upd_ne h1, upd_ne h9]
theorem ewL_p {j s : Nat} : ewL y j (25 + 16 * j + s) = y (25 + 16 * j + s) := by unfold ewL; simp (disch := omega) only [upd_ne]
theorem rust_s {j s : Nat} {r : Int32} : upd (rustZ (ewL y j) j r s) (25 + 16 * j + s) (maxP (y (25 + 16 * j + s) - r) 0) = rustZ (ewL y j) j r (s + 1) := by
  rw [rustZ, ewL_p]
theorem ewL_4 {j : Nat} : ewL y j 4 = y 4 := by unfold ewL; simp (disch := omega) only [upd_ne]
theorem ewL_n {j q : Nat} (h : q < 14) (h6 : q ≠ 6) : ewL y j q = y q := by unfold ewL; simp (disch := omega) only [upd_ne]
theorem ewk_full {j : Nat} (c1 : ewkZ y j (14 + 16 * j) = 1) (c2 : ewkZ y j 2 < idlP (ewkZ y j) j) : rustZ (ewL (ewkZ y j) j) j (ewkZ y j 4) 5 = ewkZ y (j + 1) ∧ ewkR y j + decP (ewkZ y j (14 + 16 * j + 1)) (ewkZ y j 3) = ewkR y (j + 1) := by
  have h : ¬ ewkZ y j (14 + 16 * j) = 0 := by rw [c1]; decide
  rw [ewkZ, if_neg h, ewkR, if_neg h, ewZ, if_pos c2, ewR, if_pos c2, ewL_eq]
  exact ⟨rfl, rfl⟩
theorem rust_a {p r : Int32} (hp : bt p 0 9999) (hr : bt r 0 300) (c : p < r) : 0 = maxP (p - r) 0 := by
  have h0 : (0 : Int32).toInt = 0 := by decide
  have e : (p - r).toInt = p.toInt - r.toInt := t_sub (by omega) (by omega)
  rw [t_lt] at c
  unfold maxP
  rw [if_pos (by rw [t_lt, e, h0]; omega)]
theorem rust_b {p r : Int32} (hp : bt p 0 9999) (hr : bt r 0 300) (c : ¬ p < r) : p - r = maxP (p - r) 0 := by
  have h0 : (0 : Int32).toInt = 0 := by decide
  have e : (p - r).toInt = p.toInt - r.toInt := t_sub (by omega) (by omega)
  rw [t_lt] at c
  unfold maxP
  rw [if_neg (by rw [t_lt, e, h0]; omega)]
theorem wk_p (hC : C ≤ 6000) (h : rOK C n z) {i j s : Nat} (hj : j < 8) (hs : s < 5) : bt (ewkZ (pZ z n i) j (25 + 16 * j + s)) 0 9999 := by
  rw [ewk_mem (j := j) (by omega) (by omega), if_pos (Or.inl (Nat.le_refl _)), (pz_wk i).1 _ (by omega)]
  exact ((ok_wkI hC h i).2.2.2.2.2.2.2 j hj).1 s hs
theorem wk_r (h : rOK C n z) {i j : Nat} : bt (ewkZ (pZ z n i) j 4) 0 300 := by
  rw [ewkZ_at _ (by decide) (by decide), pZ_at _ (by decide) (by decide)]
  exact h.2.2.2.2.2.2.1.2.2.2.1
/-! The weeks keep the sum. -/
theorem sm_ew {j : Nat} (hj : j < n) (s : smS z n) : smS (ewZ z j) n := by
  unfold smS at s ⊢
  have e := sumF_d (a := ewZ z j) (b := z) (w := 1) (j := j) (d := -(ewR z j)) (by rw [ew_1, Int32.sub_eq_add_neg]) n (fun q hq hqj => ew_off (by omega) (by omega) (by omega) (by omega) (by omega) (by omega))
  rw [if_pos hj] at e
  rw [e, ew_6, ew_off (q := 7) (by omega) (by omega) (by omega) (by omega) (by omega) (by omega), ← s]
  grind
theorem sm_ewk (s : smS z n) : ∀ i, i ≤ n → smS (ewkZ z i) n
  | 0, _ => s
  | i + 1, hi => by
    rw [ewkZ]
    split
    · exact sm_ewk s i (by omega)
    · exact sm_ew (by omega) (sm_ewk s i (by omega))
theorem sm_pz (s : smS z n) : ∀ i, smS (pZ z n i) n
  | 0 => s
  | i + 1 => sm_ewk (sm_pz s i) n (Nat.le_refl _)
theorem ps_pass {w : Nat} (hk : k < 60) (h : pI k n z nx kp) (h2 : 2 ≤ n) (hw : w < 6) : pI (k + 1) n (wkI z n (1 + w)) ((nx + 1) % 6) (min (kp + 1) 6) := by
  obtain ⟨a1, a2, a3, a4, a5, ⟨v, hv, ev⟩, a7⟩ := id h
  refine ⟨rOK_up (by omega) (ok_wkI (by omega) a1 (1 + w)), a2, by omega, by omega, by omega, ⟨v + (1 + w), by omega, ?_⟩, ?_⟩
  · rw [wk_8, ev, nI_add]
  · have s := sm_pz (n := n) a7 (1 + w)
    have e := (pz_wk (z := z) (n := n) (1 + w)).1
    unfold smS at s ⊢
    rw [← e 6 (by omega), ← e 7 (by omega), ← s, sumF_c n (fun j hj => (e (14 + 16 * j + 1) (by omega)).symm)]
theorem kg_pass {w : Nat} (hk : k < 60) (h : pI k n z nx kp) (hw : w < 6) : kPass z (nI (1 + w)) = 0 := by
  obtain ⟨v, hv, ev⟩ := h.2.2.2.2.2.1
  unfold kPass
  rw [if_pos (show inP (nI (1 + w)) 1 50 from mn_in (N := 50) (by omega) (by omega)), ev, nI_add, if_neg (show ¬ (2000 : Int32) < nI (v + (1 + w)) from nI_nlt (b := v + (1 + w)) (a := 2000) (by omega) (by omega))]
/-! Answers of bank. -/
theorem mis_none (h : z 10 = -1) : misP z n = -1 := if_pos h
theorem mv_ans (hB : hBool z) (hn : n ≤ 8) {a : Nat} {mn : Int32} : cntT (upd (upd z 10 (nI a)) 11 mn) n - 1 = sumF (upd (upd z 10 (nI a)) 11 mn) 0 n - 1 := by
  rw [there_eq (upd_bool (by decide) (upd_bool (by decide) hB)) n hn]
theorem mn_1 {m : Nat} (h : m < 1000) : ¬ nI (1 + m) < 1 := nI_nlt (b := 1) (a := 1 + m) (by omega) (by omega)
theorem two_cnt {m : Int32} (h : ∀ k : Nat, k < 8 → (m >>> (nI k &&& 31)) &&& 1 = if z (142 + k) = 0 then 0 else 1) (h3 : ∀ j, j < 8 → z (142 + j) = 0 ∨ z (142 + j) = 1 ∨ z (142 + j) = 2) : ∀ i : Nat, i ≤ 8 → oneP m i = cntB z 1 i + cntB z 2 i
  | 0, _ => rfl
  | i + 1, hi => by
    rw [oneP, cntB, cntB, two_cnt h h3 i (by omega), h i (by omega)]
    rcases h3 i (by omega) with q | q | q
    · rw [q, if_pos rfl, if_neg (by decide), if_neg (by decide), Int32.add_zero]
    · rw [q, if_neg (by decide), if_pos rfl, if_neg (by decide)]; grind
    · rw [q, if_neg (by decide), if_neg (by decide), if_pos rfl]; grind
theorem tk_ans (h : rOK C n z) (hn : n ≤ 4) : cntB z 1 n + cntB z 2 n = oneP (z 12 ||| z 13) 4 := by
  obtain ⟨-, -, -, hM, ht, hv, -, -⟩ := h
  have h3 := vOK_3 hv
  have a := two_cnt (z := z) (m := z 12 ||| z 13) (fun k hk => by
    obtain ⟨p, q⟩ := hM k hk
    rw [or_bit, p, q]
    rcases h3 k hk with e | e | e <;> rw [e] <;> decide) h3 4 (by omega)
  have far := vOK_far hv ht
  have b := cnt_more (z := z) (kd := 1) (by decide) far (4 - n) (by omega)
  have c := cnt_more (z := z) (kd := 2) (by decide) far (4 - n) (by omega)
  rw [show n + (4 - n) = 4 by omega] at b c
  rw [a, b, c]
theorem mb11 {j : Nat} (h : ¬ cvP z j) : prpP z j (nI 11) = 0 := by
  unfold prpP
  rw [if_neg (by decide), if_neg (by decide), if_neg (by decide), if_neg (by decide), if_neg (by decide), if_neg (by decide), if_neg (by decide), if_neg (by decide), if_neg (by decide), if_neg (by decide), if_neg (by decide)]
  first | exact bI_f h | rw [if_neg h]
theorem vt0 (h : rOK C n z) {j : Nat} (hj : j < 8) (c : ¬ ((z 12 ||| z 13) >>> (nI j &&& 31)) &&& 1 = 1) : z (142 + j) = 0 :=
  Decidable.not_not.mp (fun q => c ((rOK_vote h j hj).mpr q))
theorem vt1 (h : rOK C n z) {j : Nat} (hj : j < 8) (c : ((z 12 ||| z 13) >>> (nI j &&& 31)) &&& 1 = 1) : ¬ cvP z j := fun q => (rOK_vote h j hj).mp c q.2.2.2
theorem ps_vote1 {j d : Nat} (hk : k < 60) (h : pI k n z nx kp) (h2 : 2 ≤ n) (hj : j < n) (hd : d < n) (h10 : z 10 = nI d) (hc : cvP z j) : ∃ z2, pI (k + 1) n z2 ((nx + 1) % 6) (min (kp + 1) 6) ∧ eqC (setZ (upd z (142 + j) (if (1 : Int32) = 0 then 2 else 1)) n d) z2 ∧ (∀ q, q < 142 → lk4Z (upd z 12 ((z 12) ||| (1 <<< ((nI j) &&& 31)))) n d q = z2 q) ∧ setR (upd z (142 + j) (if (1 : Int32) = 0 then 2 else 1)) n = lk4R (upd z 12 ((z 12) ||| (1 <<< ((nI j) &&& 31)))) n d := by
  have e : qz_vote z j 1 = upd z 12 ((z 12) ||| (1 <<< ((nI j) &&& 31))) := if_neg (by decide)
  have := ps_vote (bf := 1) hk h h2 hj hd h10 hc
  rw [e] at this; exact this
theorem ps_vote0 {j d : Nat} (hk : k < 60) (h : pI k n z nx kp) (h2 : 2 ≤ n) (hj : j < n) (hd : d < n) (h10 : z 10 = nI d) (hc : cvP z j) : ∃ z2, pI (k + 1) n z2 ((nx + 1) % 6) (min (kp + 1) 6) ∧ eqC (setZ (upd z (142 + j) (if (0 : Int32) = 0 then 2 else 1)) n d) z2 ∧ (∀ q, q < 142 → lk4Z (upd z 13 ((z 13) ||| (1 <<< ((nI j) &&& 31)))) n d q = z2 q) ∧ setR (upd z (142 + j) (if (0 : Int32) = 0 then 2 else 1)) n = lk4R (upd z 13 ((z 13) ||| (1 <<< ((nI j) &&& 31)))) n d := by
  have e : qz_vote z j 0 = upd z 13 ((z 13) ||| (1 <<< ((nI j) &&& 31))) := if_pos rfl
  have := ps_vote (bf := 0) hk h h2 hj hd h10 hc
  rw [e] at this; exact this
end PW
