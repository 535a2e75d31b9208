/-! The reference's run. -/
theorem tMs_at {st : Tst} {x : Int32} {k : Nat} (h3 : k ≠ 3) (h4 : k ≠ 4) (h5 : k ≠ 5) : (tMs st x).2.1 k = st.2.1 k := by
  unfold tMs
  split
  · exact upd_ne h5
  · split
    · exact upd_ne h5
    · split
      · exact upd_ne h5
      · split
        · exact upd_ne h5
        · split
          · exact (upd_ne h5).trans (upd_ne h4)
          · split
            · exact (upd_ne h5).trans (upd_ne h3)
            · exact upd_ne h4
theorem fmS_at {tx : Nat → Int32} {k : Nat} (h3 : k ≠ 3) (h4 : k ≠ 4) (h5 : k ≠ 5) : ∀ (m i : Nat) (st : Tst), (fmS tx st i m).2.1 k = st.2.1 k
  | 0, _, _ => rfl
  | m + 1, i, st => by
    rw [fmS]
    split
    · exact tMs_at h3 h4 h5
    · exact (fmS_at h3 h4 h5 m (i + 1) _).trans (tMs_at h3 h4 h5)
theorem fmS_0 {tx pa mr : Nat → Int32} {k : Nat} (h3 : k ≠ 3) (h4 : k ≠ 4) (h5 : k ≠ 5) {m : Nat} : (fmS tx (tM0 pa mr) 0 m).2.1 k = mr k :=
  (fmS_at h3 h4 h5 m 0 _).trans ((upd_ne h5).trans (upd_ne h3))
abbrev rdM (pa : Nat → Int32) (i : Nat) : Prop := ∃ g t k : Nat, g < 8 ∧ t < 8 ∧ g ≠ t ∧ k < 5 ∧ pa (4 * i) = nI g ∧ pa (4 * i + 1) = nI t ∧ pa (4 * i + 2) = nI k
abbrev alwA (z : Nat → Int32) (n : Nat) (pa : Nat → Int32) (i : Nat) : Prop := alwP z n (cl (pa (4 * i))) (cl (pa (4 * i + 1))) (cl (pa (4 * i + 2))) (pa (4 * i + 3))
def dealA (z pa : Nat → Int32) (i : Nat) : Nat → Int32 := dealZ z (cl (pa (4 * i))) (cl (pa (4 * i + 1))) (cl (pa (4 * i + 2))) (pa (4 * i + 3))
def mkQ (pa z : Nat → Int32) : Nat → Nat → Int32
  | 0 => z
  | i + 1 => dealA (mkQ pa z i) pa i
def mkX (pa : Nat → Int32) (n : Nat) : (Nat → Int32) → Nat → Nat → (Nat → Int32) × Int32
  | z, i, 0 => (z, nI i)
  | z, i, m + 1 => if alwA z n pa i then mkX pa n (dealA z pa i) (i + 1) m else (z, nI i)
abbrev mkI (pa z : Nat → Int32) (n m i : Nat) : Prop := mkX pa n z 0 m = mkX pa n (mkQ pa z i) i (m - i)
theorem mk_end {pa z : Nat → Int32} {n m : Nat} (h : mkI pa z n m m) : mkX pa n z 0 m = (mkQ pa z m, nI m) := by
  rw [h, Nat.sub_self]; rfl
theorem mk_stop {pa z : Nat → Int32} {n m i : Nat} (h : mkI pa z n m i) (li : i < m) (c : ¬ alwA (mkQ pa z i) n pa i) : mkX pa n z 0 m = (mkQ pa z i, nI i) := by
  rw [h, show m - i = (m - (i + 1)) + 1 by omega, mkX, if_neg c]
theorem mk_inv {pa z : Nat → Int32} {n m i : Nat} (h : mkI pa z n m i) (li : i < m) (c : alwA (mkQ pa z i) n pa i) : mkI pa z n m (i + 1) := by
  unfold mkI at h ⊢
  rw [h, show m - i = (m - (i + 1)) + 1 by omega, mkX, if_pos c]; rfl
theorem dealZ_bool {z : Nat → Int32} {g t k : Nat} {mn : Int32} (hk : k < 5) (h : hBool z) : hBool (dealZ z g t k mn) := by
  unfold dealZ
  exact updB_x (updB_x (updB_x (updB_x (updB_x (updB_0 (updB_x (updB_x (updB_x (updB_0 (updB_x (updB_x (updB_x h (fun i _ => by omega)) (fun i _ => by omega)) (fun i _ => by omega)) (Or.inr rfl)) (fun i _ => by omega)) (fun i _ => by omega)) (fun i _ => by omega)) (Or.inr rfl)) (fun i _ => by omega)) (fun i _ => by omega)) (fun i _ => by omega)) (fun i _ => by omega)) (fun i _ => by omega)
theorem mkQ_5 {pa z : Nat → Int32} (i : Nat) {q : Nat} (h : q < 14) (h6 : q ≠ 6) (h9 : q ≠ 9) : mkQ pa z i q = z q := by
  induction i with
  | zero => rfl
  | succ i ih => exact (dealZ_5 h h6 h9).trans ih
theorem mkQ_bool {pa z : Nat → Int32} {m : Nat} (hm : ∀ i, i < m → rdM pa i) (h : hBool z) : ∀ i, i ≤ m → hBool (mkQ pa z i)
  | 0, _ => h
  | i + 1, hi => by
    obtain ⟨g, t, k, hg, ht, hgt, hk, e0, e1, e2⟩ := hm i (by omega)
    refine dealZ_bool ?_ (mkQ_bool hm h i (by omega))
    rw [e2]; show (nI k).toNatClampNeg < 5; rw [nI_clamp (by omega)]; exact hk
/-- a reader whose deals so far are right -/
def gdM (st : Tst) : Prop := (∀ i, i < st.2.2 → rdM st.1 i) ∧ ∃ d : Nat, d ≤ 5 ∧ st.2.1 5 = nI d ∧ (1 ≤ d → ∃ g, g < 8 ∧ st.1 (4 * st.2.2) = nI g) ∧ (3 ≤ d → ∃ g t, g < 8 ∧ t < 8 ∧ g ≠ t ∧ st.1 (4 * st.2.2) = nI g ∧ st.1 (4 * st.2.2 + 1) = nI t) ∧ (4 ≤ d → rdM st.1 st.2.2)
theorem rdM_congr {p p2 : Nat → Int32} {i : Nat} (h : ∀ j, j < 3 → p2 (4 * i + j) = p (4 * i + j)) (hr : rdM p i) : rdM p2 i := by
  obtain ⟨g, t, k, hg, ht, hgt, hk, e0, e1, e2⟩ := hr
  exact ⟨g, t, k, hg, ht, hgt, hk, (h 0 (by omega)).trans e0, (h 1 (by omega)).trans e1, (h 2 (by omega)).trans e2⟩
theorem ah_nat {x : Int32} (h : inP x 97 104) : ∃ g, g < 8 ∧ x - 97 = nI g := by
  have h0 : ¬ x < 0 := fun q => h.1 (Int32.lt_trans q (by decide))
  obtain ⟨j, hj, rfl⟩ := nI_of h0
  have h1 : ¬ j < 97 := fun q => h.1 (nI_lt (a := j) (b := 97) q (by omega))
  have h2 : ¬ 104 < j := fun q => h.2 (nI_lt (a := 104) (b := j) q (by omega))
  exact ⟨j - 97, by omega, pk_sub (a := j) (b := 97) (by omega)⟩
theorem gdM_mk {p m : Nat → Int32} {r d : Nat} (ha : ∀ i, i < r → rdM p i) (hd : d ≤ 5) (h5 : m 5 = nI d) (p1 : 1 ≤ d → ∃ g, g < 8 ∧ p (4 * r) = nI g) (p3 : 3 ≤ d → ∃ g t, g < 8 ∧ t < 8 ∧ g ≠ t ∧ p (4 * r) = nI g ∧ p (4 * r + 1) = nI t) (p4 : 4 ≤ d → rdM p r) : gdM (p, m, r) := ⟨ha, d, hd, h5, p1, p3, p4⟩
theorem gdM_s {st : Tst} {x : Int32} (h : gdM st) (c : ¬ tMv st x = 0) : gdM (tMs st x) := by
  obtain ⟨ha, d, hd, h5, p1, p3, p4⟩ := h
  have : d = 0 ∨ d = 1 ∨ d = 2 ∨ d = 3 ∨ d = 4 ∨ d = 5 := by omega
  rcases this with rfl | rfl | rfl | rfl | rfl | rfl
  · rw [tMv_0 h5] at c
    rw [tMs_0 h5]
    obtain ⟨g, hg, eg⟩ := ah_nat (bI_1 c)
    refine gdM_mk (d := 1) (fun i hi => rdM_congr (fun j hj => upd_ne (by have : i < st.2.2 := hi; omega)) (ha i hi)) (by decide) (upd_eq rfl) (fun _ => ⟨g, hg, (upd_eq rfl).trans eg⟩) (fun q => absurd q (by decide)) (fun q => absurd q (by decide))
  · rw [tMs_1 h5]
    exact gdM_mk (d := 2) ha (by decide) (upd_eq rfl) (fun _ => p1 (by decide)) (fun q => absurd q (by decide)) (fun q => absurd q (by decide))
  · rw [tMv_2 h5] at c
    rw [tMs_2 h5]
    obtain ⟨c1, c2⟩ := bI_1 c
    obtain ⟨t, ht, et⟩ := ah_nat c1
    obtain ⟨g, hg, eg⟩ := p1 (by decide)
    have hne : g ≠ t := fun q => c2 (by rw [et, eg, q])
    refine gdM_mk (d := 3) (fun i hi => rdM_congr (fun j hj => upd_ne (by have : i < st.2.2 := hi; omega)) (ha i hi)) (by decide) (upd_eq rfl) (fun _ => ⟨g, hg, (upd_ne (by omega)).trans eg⟩) (fun _ => ⟨g, t, hg, ht, hne, (upd_ne (by omega)).trans eg, (upd_eq rfl).trans et⟩) (fun q => absurd q (by decide))
  · rw [tMv_3 h5] at c
    rw [tMs_3 h5]
    obtain ⟨k, hk, ek⟩ := skl_nat (bI_1 c)
    obtain ⟨g, t, hg, ht, hgt, eg, et⟩ := p3 (by decide)
    refine gdM_mk (d := 4) (fun i hi => rdM_congr (fun j hj => upd_ne (by have : i < st.2.2 := hi; omega)) (ha i hi)) (by decide) (upd_eq rfl) (fun _ => ⟨g, hg, (upd_ne (by omega)).trans eg⟩) (fun _ => ⟨g, t, hg, ht, hgt, (upd_ne (by omega)).trans eg, (upd_ne (by omega)).trans et⟩) (fun _ => ⟨g, t, k, hg, ht, hgt, hk, (upd_ne (by omega)).trans eg, (upd_ne (by omega)).trans et, (upd_eq rfl).trans ek⟩)
  · rw [tMs_4 h5]
    exact gdM_mk (d := 5) ha (by decide) (upd_eq rfl) (fun _ => p1 (by decide)) (fun _ => p3 (by decide)) (fun _ => p4 (by decide))
  · have ho : (st.2.1 5).toInt < 0 ∨ 4 < (st.2.1 5).toInt := by rw [h5]; decide
    by_cases h2 : x = 59 ∧ ¬ st.2.1 4 = -1
    · rw [tMs_5 ho h2]
      refine gdM_mk (d := 0) (fun i hi => ?_) (by decide) (upd_eq rfl) (fun q => absurd q (by decide)) (fun q => absurd q (by decide)) (fun q => absurd q (by decide))
      have hi2 : i < st.2.2 + 1 := hi
      rcases Nat.lt_or_ge i st.2.2 with q | q
      · exact ha i q
      · have e : i = st.2.2 := by omega
        rw [e]; exact p4 (by decide)
    · rw [tMs_6 ho h2]
      refine gdM_mk (d := 5) (fun i hi => rdM_congr (fun j hj => upd_ne (by have : i < st.2.2 := hi; omega)) (ha i hi)) (by decide) ((upd_ne (by decide)).trans h5) (fun _ => ?_) (fun _ => ?_) (fun _ => rdM_congr (fun j hj => upd_ne (by show 4 * st.2.2 + j ≠ 4 * st.2.2 + 3; omega)) (p4 (by decide)))
      · obtain ⟨g, hg, eg⟩ := p1 (by decide)
        exact ⟨g, hg, (upd_ne (by omega)).trans eg⟩
      · obtain ⟨g, t, hg, ht, hgt, eg, et⟩ := p3 (by decide)
        exact ⟨g, t, hg, ht, hgt, (upd_ne (by omega)).trans eg, (upd_ne (by omega)).trans et⟩
theorem fmN_le {tx : Nat → Int32} : ∀ (m i : Nat) (st : Tst), fmN tx st i m ≤ i + m
  | 0, _, _ => Nat.le_refl _
  | m + 1, i, st => by
    rw [fmN]
    split
    · omega
    · have := fmN_le (tx := tx) m (i + 1) (tMs st (tx i)); omega
theorem fmS_g {tx : Nat → Int32} : ∀ (m i : Nat) (st : Tst), gdM st → fmN tx st i m = i + m → gdM (fmS tx st i m)
  | 0, _, _, h, _ => h
  | m + 1, i, st, h, e => by
    rw [fmN] at e
    rw [fmS]
    split
    · rename_i q
      rw [if_pos q] at e; omega
    · rename_i q
      rw [if_neg q] at e
      exact fmS_g m (i + 1) _ (gdM_s h q) (by omega)
theorem tM0_g {pa mr : Nat → Int32} : gdM (tM0 pa mr) :=
  gdM_mk (d := 0) (fun i hi => absurd hi (Nat.not_lt_zero i)) (by decide) (upd_eq rfl) (fun q => absurd q (by decide)) (fun q => absurd q (by decide)) (fun q => absurd q (by decide))
abbrev whM (tx pa mr : Nat → Int32) (nb : Nat) : Prop := nI (fmN tx (tM0 pa mr) 0 nb) = nI nb ∧ (fmS tx (tM0 pa mr) 0 nb).2.1 5 = 5 ∧ ¬ (fmS tx (tM0 pa mr) 0 nb).2.1 4 = -1
theorem whole_parts {tx pa mr : Nat → Int32} {nb : Nat} (hnb : nb ≤ 60) (h : whM tx pa mr nb) : ∀ i, i < (fmS tx (tM0 pa mr) 0 nb).2.2 + 1 → rdM (fmS tx (tM0 pa mr) 0 nb).1 i := by
  obtain ⟨h1, h2, h3⟩ := h
  have hl := fmN_le (tx := tx) nb 0 (tM0 pa mr)
  have e : fmN tx (tM0 pa mr) 0 nb = 0 + nb := by
    rcases Nat.lt_or_ge (fmN tx (tM0 pa mr) 0 nb) nb with q | q
    · exact absurd h1 (nI_neq (by omega) (by omega) (by omega))
    · omega
  obtain ⟨ha, d, hd, h5, p1, p3, p4⟩ := fmS_g nb 0 _ (tM0_g (pa := pa) (mr := mr)) e
  have hd5 : ¬ d < 5 := fun q => nI_neq (a := d) (b := 5) (by omega) (by omega) (by omega) (h5.symm.trans h2)
  intro i hi
  rcases Nat.lt_or_ge i (fmS tx (tM0 pa mr) 0 nb).2.2 with q | q
  · exact ha i q
  · have e : i = (fmS tx (tM0 pa mr) 0 nb).2.2 := by omega
    rw [e]; exact p4 (by omega)
def kRunM (tx pa mr : Nat → Int32) (nb : Nat) : Int32 := if whM tx pa mr nb then 0 else 1

section XB
variable {l : Launch} {D : va_G} {cI cC cM cB cJ : ClassId} {q : Nat → Nat} {z hi tx pa ke mr : Nat → Int32} {hs : Int64} {wr : va_W}
theorem c_X6_makes_r {n : Nat} (hn : n ≤ 8) (hz : z 5 = nI n) (hB : hBool z) {i : Nat} (hi10 : i < 10) (hr : rdM pa i) : zM l D (zT cI cC cM cB cJ) yX6_makes cX6_makes 5 (some .boolean) ({ frames := 4, cells := 0, slots := 0, locals := 96 } : Room) [.ref (q 0), .int (nI i)] (moW cI q z hi tx pa ke mr hs wr) (moW cI q (if alwA z n pa i then dealA z pa i else z) hi tx pa ke mr hs wr) (some (.int (bI (alwA z n pa i)))) 0 0 := by
  obtain ⟨g, t, k, hg, ht, hgt, hk, e0, e1, e2⟩ := hr
  have h := c_X6_makes (l := l) (D := D) (cI := cI) (cC := cC) (cM := cM) (cB := cB) (cJ := cJ) (q := q) (hi := hi) (tx := tx) (ke := ke) (mr := mr) (hs := hs) (wr := wr) hn hz hB hi10 hg ht hgt hk e0 e1 e2
  have eg : cl (pa (4 * i)) = g := by rw [e0]; exact nI_clamp (by omega)
  have et : cl (pa (4 * i + 1)) = t := by rw [e1]; exact nI_clamp (by omega)
  have ek : cl (pa (4 * i + 2)) = k := by rw [e2]; exact nI_clamp (by omega)
  subst eg et ek
  exact h
set_option maxHeartbeats 4000000 in
set_option maxRecDepth 100000 in
theorem c_X6_run {n : Nat} (hn : n ≤ 8) (hz : z 5 = nI n) {u : Nat} (hu : u ≤ 6) (hm : mr 0 = nI u) (hB : hBool z) {nb : Nat} (hnb : nb ≤ 60) (h1 : mr 1 = nI nb) : zM l D (zT cI cC cM cB cJ) yX6_run cX6_run 3 (some .int) ({ frames := 5, cells := 0, slots := 0, locals := 120 } : Room) [.ref (q 0)] (moW cI q z hi tx pa ke mr hs wr) (xwf (kRunM tx pa mr nb) (moW cI q ((mkX (fmS tx (tM0 pa mr) 0 nb).1 n z 0 ((fmS tx (tM0 pa mr) 0 nb).2.2 + 1)).1) (svH hi z u) tx ((fmS tx (tM0 pa mr) 0 nb).1) ke (upd (upd (upd ((fmS tx (tM0 pa mr) 0 nb).2.1) 2 0) 0 (nI (min (u + 1) 6))) 1 0) hs wr) (fun k_ => moW cI q z hi tx ((fmS tx (tM0 pa mr) 0 nb).1) ke (upd ((fmS tx (tM0 pa mr) 0 nb).2.1) 2 k_) hs wr)) (some (.int (xv (kRunM tx pa mr nb) ((mkX (fmS tx (tM0 pa mr) 0 nb).1 n z 0 ((fmS tx (tM0 pa mr) 0 nb).2.2 + 1)).2)))) 0 0 := by
  refine z_enter (by decide) (Nat.le_of_ble_eq_true rfl) ?_
  intro p e s m below meth c A S hr hlocks hnm hN hA hK hP hD hS ls hl
  obtain ⟨hx, hb, hml, hown, hts⟩ := id S
  have hl : lv_has ls 3 [(0, .ref (q 0))] := hl
  have hP : va_P D vwCl (moW cI q z hi tx pa ke mr hs wr) s.heap := hP
  have hD : va_D A (moW cI q z hi tx pa ke mr hs wr) := hD
  refine lv_aload_n hx hb dX6_run_0 rfl (lv_at hl 0 rfl) ?_
  refine z_callV1 (rest := []) S (c_X6_rightUpTo (nb := nb) (by omega) (h1)) qm_X6_141 v_X6_rightUpTo ⟨Nat.le_of_ble_eq_true rfl, Nat.le_of_ble_eq_true rfl⟩ rfl rfl hN hK hP hD hS hA (0) (mo_0) rfl rfl hl.1 rfl (Nat.le_of_ble_eq_true rfl) dX6_run_1 ⟨Nat.le_of_ble_eq_true rfl, Nat.le_of_ble_eq_true rfl⟩ (fun H locs hP hD hS => ?_)
  refine lv_aload_n hx hb dX6_run_4 rfl (lv_at hl 0 rfl) ?_
  refine va_get (v := .int (nI nb)) hx hb hts inTX6 hown hK hP (0) (mo_0) rfl 3 (by decide) (hts _ qf_X6_120) (fun _ h9 => h9) (congrArg (fun x => some (Value.int x)) ((fmS_i (h1) (by omega)).1)) dX6_run_5 ?_
  refine lv_icmp_ne (tgt := 31) hx hb dX6_run_8 (by decide) (fun c1 => ?_) (fun c1 => ?_)
  · skip
    refine lv_iconst (v := 0) hx hb dX6_run_31 (by decide) ?_
    refine lv_istore_n (lv' := [(1, .int 0), (0, .ref (q 0))]) hx hb dX6_run_32 rfl hl (by decide) rfl (fun ls hl => ?_)
    refine lv_aload_n hx hb dX6_run_33 rfl (lv_at hl 1 rfl) ?_
    refine lv_iload_n hx hb dX6_run_34 rfl (lv_at hl 0 rfl) ?_
    refine lv_if_eq (tgt := 42) hx hb dX6_run_35 (by decide) (fun c2 => ?_) (fun c2 => absurd (by decide) c2)
    refine lv_iconst (v := 1) hx hb dX6_run_42 (by decide) ?_
    refine z_put (v := .int 1) (ty := .int) (ws2 := moW cI q z hi tx ((fmS tx (tM0 pa mr) 0 nb).1) ke (upd ((fmS tx (tM0 pa mr) 0 nb).2.1) 2 1) hs wr) hx hb hts inTX6 tyX6 tyX6_ok nmX6 hown hK hP hD hS (0) (mo_0) rfl 5 (by decide) (hts _ qf_X6_25) (fun _ h9 => h9) rfl (by decide +kernel) (rfl) (rfl) (Nat.le_of_ble_eq_true rfl) dX6_run_43 (mo_w0 _ mfl_s2) (fun H locs hP hD hS => ?_)
    refine lv_aload_n hx hb dX6_run_46 rfl (lv_at hl 1 rfl) ?_
    refine va_get (v := .int 1) hx hb hts inTX6 hown hK hP (0) (mo_0) rfl 5 (by decide) (hts _ qf_X6_25) (fun _ h9 => h9) (congrArg (fun x => some (Value.int x)) (upd_eq rfl)) dX6_run_47 ?_
    refine lv_if_le (tgt := 55) hx hb dX6_run_50 (by decide) (fun c3 => absurd c3 (by decide)) (fun c3 => ?_)
    have c3 := z_lt c3
    refine lv_iconst (v := 0) hx hb dX6_run_53 (by decide) ?_
    exact z_iret hx hb hr hlocks hP hD hK hS (Eq.symm (xwf_n (K := kRunM tx pa mr nb) (k := 1) (if_neg (fun q_ => c1 q_.1)) (by decide))) (congrArg (fun y_ => some (Value.int y_)) (Eq.symm (xv_n (K := kRunM tx pa mr nb) (k := 1) (if_neg (fun q_ => c1 q_.1)) (by decide)))) dX6_run_54
  · skip
    refine lv_aload_n hx hb dX6_run_11 rfl (lv_at hl 0 rfl) ?_
    refine va_get (v := .int ((fmS tx (tM0 pa mr) 0 nb).2.1 5)) hx hb hts inTX6 hown hK hP (0) (mo_0) rfl 9 (by decide) (hts _ qf_X6_129) (fun _ h9 => h9) (rfl) dX6_run_12 ?_
    refine lv_iconst (v := 5) hx hb dX6_run_15 (by decide) ?_
    refine lv_icmp_ne (tgt := 31) hx hb dX6_run_16 (by decide) (fun c4 => ?_) (fun c4 => ?_)
    · skip
      refine lv_iconst (v := 0) hx hb dX6_run_31 (by decide) ?_
      refine lv_istore_n (lv' := [(1, .int 0), (0, .ref (q 0))]) hx hb dX6_run_32 rfl hl (by decide) rfl (fun ls hl => ?_)
      refine lv_aload_n hx hb dX6_run_33 rfl (lv_at hl 1 rfl) ?_
      refine lv_iload_n hx hb dX6_run_34 rfl (lv_at hl 0 rfl) ?_
      refine lv_if_eq (tgt := 42) hx hb dX6_run_35 (by decide) (fun c5 => ?_) (fun c5 => absurd (by decide) c5)
      refine lv_iconst (v := 1) hx hb dX6_run_42 (by decide) ?_
      refine z_put (v := .int 1) (ty := .int) (ws2 := moW cI q z hi tx ((fmS tx (tM0 pa mr) 0 nb).1) ke (upd ((fmS tx (tM0 pa mr) 0 nb).2.1) 2 1) hs wr) hx hb hts inTX6 tyX6 tyX6_ok nmX6 hown hK hP hD hS (0) (mo_0) rfl 5 (by decide) (hts _ qf_X6_25) (fun _ h9 => h9) rfl (by decide +kernel) (rfl) (rfl) (Nat.le_of_ble_eq_true rfl) dX6_run_43 (mo_w0 _ mfl_s2) (fun H locs hP hD hS => ?_)
      refine lv_aload_n hx hb dX6_run_46 rfl (lv_at hl 1 rfl) ?_
      refine va_get (v := .int 1) hx hb hts inTX6 hown hK hP (0) (mo_0) rfl 5 (by decide) (hts _ qf_X6_25) (fun _ h9 => h9) (congrArg (fun x => some (Value.int x)) (upd_eq rfl)) dX6_run_47 ?_
      refine lv_if_le (tgt := 55) hx hb dX6_run_50 (by decide) (fun c6 => absurd c6 (by decide)) (fun c6 => ?_)
      have c6 := z_lt c6
      refine lv_iconst (v := 0) hx hb dX6_run_53 (by decide) ?_
      exact z_iret hx hb hr hlocks hP hD hK hS (Eq.symm (xwf_n (K := kRunM tx pa mr nb) (k := 1) (if_neg (fun q_ => c4 q_.2.1)) (by decide))) (congrArg (fun y_ => some (Value.int y_)) (Eq.symm (xv_n (K := kRunM tx pa mr nb) (k := 1) (if_neg (fun q_ => c4 q_.2.1)) (by decide)))) dX6_run_54
    · skip
      refine lv_aload_n hx hb dX6_run_19 rfl (lv_at hl 0 rfl) ?_
      refine va_get (v := .int ((fmS tx (tM0 pa mr) 0 nb).2.1 4)) hx hb hts inTX6 hown hK hP (0) (mo_0) rfl 8 (by decide) (hts _ qf_X6_123) (fun _ h9 => h9) (rfl) dX6_run_20 ?_
      refine lv_iconst (v := (-1)) hx hb dX6_run_23 (by decide) ?_
      refine lv_icmp_eq (tgt := 31) hx hb dX6_run_24 (by decide) (fun c7 => ?_) (fun c7 => ?_)
      · skip
        refine lv_iconst (v := 0) hx hb dX6_run_31 (by decide) ?_
        refine lv_istore_n (lv' := [(1, .int 0), (0, .ref (q 0))]) hx hb dX6_run_32 rfl hl (by decide) rfl (fun ls hl => ?_)
        refine lv_aload_n hx hb dX6_run_33 rfl (lv_at hl 1 rfl) ?_
        refine lv_iload_n hx hb dX6_run_34 rfl (lv_at hl 0 rfl) ?_
        refine lv_if_eq (tgt := 42) hx hb dX6_run_35 (by decide) (fun c8 => ?_) (fun c8 => absurd (by decide) c8)
        refine lv_iconst (v := 1) hx hb dX6_run_42 (by decide) ?_
        refine z_put (v := .int 1) (ty := .int) (ws2 := moW cI q z hi tx ((fmS tx (tM0 pa mr) 0 nb).1) ke (upd ((fmS tx (tM0 pa mr) 0 nb).2.1) 2 1) hs wr) hx hb hts inTX6 tyX6 tyX6_ok nmX6 hown hK hP hD hS (0) (mo_0) rfl 5 (by decide) (hts _ qf_X6_25) (fun _ h9 => h9) rfl (by decide +kernel) (rfl) (rfl) (Nat.le_of_ble_eq_true rfl) dX6_run_43 (mo_w0 _ mfl_s2) (fun H locs hP hD hS => ?_)
        refine lv_aload_n hx hb dX6_run_46 rfl (lv_at hl 1 rfl) ?_
        refine va_get (v := .int 1) hx hb hts inTX6 hown hK hP (0) (mo_0) rfl 5 (by decide) (hts _ qf_X6_25) (fun _ h9 => h9) (congrArg (fun x => some (Value.int x)) (upd_eq rfl)) dX6_run_47 ?_
        refine lv_if_le (tgt := 55) hx hb dX6_run_50 (by decide) (fun c9 => absurd c9 (by decide)) (fun c9 => ?_)
        have c9 := z_lt c9
        refine lv_iconst (v := 0) hx hb dX6_run_53 (by decide) ?_
        exact z_iret hx hb hr hlocks hP hD hK hS (Eq.symm (xwf_n (K := kRunM tx pa mr nb) (k := 1) (if_neg (fun q_ => q_.2.2 c7)) (by decide))) (congrArg (fun y_ => some (Value.int y_)) (Eq.symm (xv_n (K := kRunM tx pa mr nb) (k := 1) (if_neg (fun q_ => q_.2.2 c7)) (by decide)))) dX6_run_54
      · skip
        refine lv_iconst (v := 1) hx hb dX6_run_27 (by decide) ?_
        refine lv_goto (tgt := 32) hx hb dX6_run_28 (by decide) ?_
        refine lv_istore_n (lv' := [(1, .int 1), (0, .ref (q 0))]) hx hb dX6_run_32 rfl hl (by decide) rfl (fun ls hl => ?_)
        refine lv_aload_n hx hb dX6_run_33 rfl (lv_at hl 1 rfl) ?_
        refine lv_iload_n hx hb dX6_run_34 rfl (lv_at hl 0 rfl) ?_
        refine lv_if_eq (tgt := 42) hx hb dX6_run_35 (by decide) (fun c10 => absurd c10 (by decide)) (fun c10 => ?_)
        refine lv_iconst (v := 0) hx hb dX6_run_38 (by decide) ?_
        refine lv_goto (tgt := 43) hx hb dX6_run_39 (by decide) ?_
        refine z_put (v := .int 0) (ty := .int) (ws2 := moW cI q z hi tx ((fmS tx (tM0 pa mr) 0 nb).1) ke (upd ((fmS tx (tM0 pa mr) 0 nb).2.1) 2 0) hs wr) hx hb hts inTX6 tyX6 tyX6_ok nmX6 hown hK hP hD hS (0) (mo_0) rfl 5 (by decide) (hts _ qf_X6_25) (fun _ h9 => h9) rfl (by decide +kernel) (rfl) (rfl) (Nat.le_of_ble_eq_true rfl) dX6_run_43 (mo_w0 _ mfl_s2) (fun H locs hP hD hS => ?_)
        refine lv_aload_n hx hb dX6_run_46 rfl (lv_at hl 1 rfl) ?_
        refine va_get (v := .int 0) hx hb hts inTX6 hown hK hP (0) (mo_0) rfl 5 (by decide) (hts _ qf_X6_25) (fun _ h9 => h9) (congrArg (fun x => some (Value.int x)) (upd_eq rfl)) dX6_run_47 ?_
        refine lv_if_le (tgt := 55) hx hb dX6_run_50 (by decide) (fun c11 => ?_) (fun c11 => absurd (by decide) c11)
        have c11 := z_nlt c11
        refine lv_aload_n hx hb dX6_run_55 rfl (lv_at hl 1 rfl) ?_
        refine z_callV0 (rest := []) S (c_X6_save (u := u) (by omega) ((upd_ne (by omega)).trans ((fmS_0 (by decide) (by decide) (by decide)).trans (hm)))) qm_X6_58 v_X6_save ⟨Nat.le_of_ble_eq_true rfl, Nat.le_of_ble_eq_true rfl⟩ rfl rfl hN hK hP hD hS hA (0) (mo_0) rfl rfl hl.1 rfl (Nat.le_of_ble_eq_true rfl) dX6_run_56 ⟨Nat.le_of_ble_eq_true rfl, Nat.le_of_ble_eq_true rfl⟩ (fun H locs hP hD hS => ?_)
        refine lv_aload_n hx hb dX6_run_59 rfl (lv_at hl 1 rfl) ?_
        refine lv_iconst (v := 0) hx hb dX6_run_60 (by decide) ?_
        refine z_put (v := .int 0) (ty := .int) (ws2 := moW cI q z (svH hi z u) tx ((fmS tx (tM0 pa mr) 0 nb).1) ke (upd (upd (upd ((fmS tx (tM0 pa mr) 0 nb).2.1) 2 0) 0 (nI (min (u + 1) 6))) 1 0) hs wr) hx hb hts inTX6 tyX6 tyX6_ok nmX6 hown hK hP hD hS (0) (mo_0) rfl 3 (by decide) (hts _ qf_X6_120) (fun _ h9 => h9) rfl (by decide +kernel) (rfl) (rfl) (Nat.le_of_ble_eq_true rfl) dX6_run_61 (mo_w0 _ mfl_s1) (fun H locs hP hD hS => ?_)
        refine lv_iconst (v := 0) hx hb dX6_run_64 (by decide) ?_
        refine lv_istore_n (lv' := [(2, .int 0), (1, .int 1), (0, .ref (q 0))]) hx hb dX6_run_65 rfl hl (by decide) rfl (fun ls hl => ?_)
        have hwh_ : whM tx pa mr nb := ⟨c1, c4, c7⟩
        have hrd_ : (fmS tx (tM0 pa mr) 0 nb).2.2 < 10 := tMi_r (fmS_i h1 hnb) (by omega)
        have K66 : ∀ (n66 i : Nat), i + n66 = (fmS tx (tM0 pa mr) 0 nb).2.2 + 1 → mkI (fmS tx (tM0 pa mr) 0 nb).1 z n ((fmS tx (tM0 pa mr) 0 nb).2.2 + 1) i → ∀ (H : Heap) (locs : List Loc), va_P D vwCl (moW cI q (mkQ (fmS tx (tM0 pa mr) 0 nb).1 z i) (svH hi z u) tx ((fmS tx (tM0 pa mr) 0 nb).1) ke (upd (upd (upd ((fmS tx (tM0 pa mr) 0 nb).2.1) 2 0) 0 (nI (min (u + 1) 6))) 1 0) hs wr) H → va_D A (moW cI q (mkQ (fmS tx (tM0 pa mr) 0 nb).1 z i) (svH hi z u) tx ((fmS tx (tM0 pa mr) 0 nb).1) ke (upd (upd (upd ((fmS tx (tM0 pa mr) 0 nb).2.1) 2 0) 0 (nI (min (u + 1) 6))) 1 0) hs wr) → va_S A s.heap H locs → ∀ ls : Array Slot, lv_has ls 3 [(0, .ref (q 0)), (1, .int 1), (2, .int (nI i))] → W p l e ({ frames := 5, cells := 0, slots := 0, locals := 120 } : Room) s m ([.ref (q 0)] : List Value).toArray below meth c H locs 0 0 (MQ below (zQ D (zT cI cC cM cB cJ) (xwf (kRunM tx pa mr nb) (moW cI q ((mkX (fmS tx (tM0 pa mr) 0 nb).1 n z 0 ((fmS tx (tM0 pa mr) 0 nb).2.2 + 1)).1) (svH hi z u) tx ((fmS tx (tM0 pa mr) 0 nb).1) ke (upd (upd (upd ((fmS tx (tM0 pa mr) 0 nb).2.1) 2 0) 0 (nI (min (u + 1) 6))) 1 0) hs wr) (fun k_ => moW cI q z hi tx ((fmS tx (tM0 pa mr) 0 nb).1) ke (upd ((fmS tx (tM0 pa mr) 0 nb).2.1) 2 k_) hs wr)) (some (.int (xv (kRunM tx pa mr nb) ((mkX (fmS tx (tM0 pa mr) 0 nb).1 n z 0 ((fmS tx (tM0 pa mr) 0 nb).2.2 + 1)).2)))) A) ([.ref (q 0)] : List Value).toArray s 0 0 A) (F0 m 66 ls []) := by
          intro n66
          induction n66 with
          | zero =>
            intro i h_i hinv66 H locs hP hD hS ls hl
            have ei : (fmS tx (tM0 pa mr) 0 nb).2.2 + 1 = i := by omega
            subst ei
            refine lv_iload_n hx hb dX6_run_66 rfl (lv_at hl 2 rfl) ?_
            refine lv_aload_n hx hb dX6_run_67 rfl (lv_at hl 0 rfl) ?_
            refine va_get (v := .int (nI ((fmS tx (tM0 pa mr) 0 nb).2.2))) hx hb hts inTX6 hown hK hP (0) (mo_0) rfl 7 (by decide) (hts _ qf_X6_126) (fun _ h9 => h9) (congrArg (fun x => some (Value.int x)) ((upd_ne (by omega)).trans ((upd_ne (by omega)).trans ((upd_ne (by omega)).trans ((fmS_i h1 hnb).2.1))))) dX6_run_68 ?_
            refine lv_icmp_gt (tgt := 88) hx hb dX6_run_71 (by decide) (fun c12 => ?_) (fun c12 => absurd (nI_lt (a := (fmS tx (tM0 pa mr) 0 nb).2.2) (b := (fmS tx (tM0 pa mr) 0 nb).2.2 + 1) (by omega) (by omega)) c12)
            refine lv_iload_n hx hb dX6_run_88 rfl (lv_at hl 2 rfl) ?_
            exact z_iret hx hb hr hlocks hP hD hK hS (Eq.trans (b := moW cI q ((mkX (fmS tx (tM0 pa mr) 0 nb).1 n z 0 ((fmS tx (tM0 pa mr) 0 nb).2.2 + 1)).1) (svH hi z u) tx ((fmS tx (tM0 pa mr) 0 nb).1) ke (upd (upd (upd ((fmS tx (tM0 pa mr) 0 nb).2.1) 2 0) 0 (nI (min (u + 1) 6))) 1 0) hs wr) (congrArg (fun z_ => moW cI q z_ (svH hi z u) tx (fmS tx (tM0 pa mr) 0 nb).1 ke (upd (upd (upd ((fmS tx (tM0 pa mr) 0 nb).2.1) 2 0) 0 (nI (min (u + 1) 6))) 1 0) hs wr) ((congrArg Prod.fst (mk_end hinv66)).symm)) (Eq.symm (xwf_0 (K := kRunM tx pa mr nb) (if_pos hwh_)))) (congrArg (fun y_ => some (Value.int y_)) (Eq.trans (b := (mkX (fmS tx (tM0 pa mr) 0 nb).1 n z 0 ((fmS tx (tM0 pa mr) 0 nb).2.2 + 1)).2) ((congrArg Prod.snd (mk_end hinv66)).symm) (Eq.symm (xv_0 (K := kRunM tx pa mr nb) (if_pos hwh_))))) dX6_run_89
          | succ n66 ih66 =>
            intro i h_i hinv66 H locs hP hD hS ls hl
            have li : i < (fmS tx (tM0 pa mr) 0 nb).2.2 + 1 := by omega
            refine lv_iload_n hx hb dX6_run_66 rfl (lv_at hl 2 rfl) ?_
            refine lv_aload_n hx hb dX6_run_67 rfl (lv_at hl 0 rfl) ?_
            refine va_get (v := .int (nI ((fmS tx (tM0 pa mr) 0 nb).2.2))) hx hb hts inTX6 hown hK hP (0) (mo_0) rfl 7 (by decide) (hts _ qf_X6_126) (fun _ h9 => h9) (congrArg (fun x => some (Value.int x)) ((upd_ne (by omega)).trans ((upd_ne (by omega)).trans ((upd_ne (by omega)).trans ((fmS_i h1 hnb).2.1))))) dX6_run_68 ?_
            refine lv_icmp_gt (tgt := 88) hx hb dX6_run_71 (by decide) (fun c13 => absurd c13 (nI_nlt (a := (fmS tx (tM0 pa mr) 0 nb).2.2) (b := i) (by omega) (by omega))) (fun c13 => ?_)
            refine lv_aload_n hx hb dX6_run_74 rfl (lv_at hl 0 rfl) ?_
            refine lv_iload_n hx hb dX6_run_75 rfl (lv_at hl 2 rfl) ?_
            refine z_callV1 (rest := []) S (c_X6_makes_r (n := n) (show n ≤ 8 by omega) ((mkQ_5 _ (by omega) (by omega) (by omega)).trans hz) (mkQ_bool (m := (fmS tx (tM0 pa mr) 0 nb).2.2 + 1) (whole_parts hnb hwh_) hB _ (by omega)) (i := i) (by omega) (whole_parts hnb hwh_ i (by omega))) qm_X6_144 v_X6_makes ⟨Nat.le_of_ble_eq_true rfl, Nat.le_of_ble_eq_true rfl⟩ rfl rfl hN hK hP hD hS hA (0) (mo_0) rfl rfl hl.1 rfl (Nat.le_of_ble_eq_true rfl) dX6_run_76 ⟨Nat.le_of_ble_eq_true rfl, Nat.le_of_ble_eq_true rfl⟩ (fun H locs hP hD hS => ?_)
            refine lv_if_eq (tgt := 88) hx hb dX6_run_79 (by decide) (fun c14 => ?_) (fun c14 => ?_)
            · have c14 := bI_0 c14
              refine lv_iload_n hx hb dX6_run_88 rfl (lv_at hl 2 rfl) ?_
              exact z_iret hx hb hr hlocks hP hD hK hS (Eq.trans (b := moW cI q ((mkX (fmS tx (tM0 pa mr) 0 nb).1 n z 0 ((fmS tx (tM0 pa mr) 0 nb).2.2 + 1)).1) (svH hi z u) tx ((fmS tx (tM0 pa mr) 0 nb).1) ke (upd (upd (upd ((fmS tx (tM0 pa mr) 0 nb).2.1) 2 0) 0 (nI (min (u + 1) 6))) 1 0) hs wr) (congrArg (fun z_ => moW cI q z_ (svH hi z u) tx (fmS tx (tM0 pa mr) 0 nb).1 ke (upd (upd (upd ((fmS tx (tM0 pa mr) 0 nb).2.1) 2 0) 0 (nI (min (u + 1) 6))) 1 0) hs wr) ((if_neg c14).trans (congrArg Prod.fst (mk_stop hinv66 li c14)).symm)) (Eq.symm (xwf_0 (K := kRunM tx pa mr nb) (if_pos hwh_)))) (congrArg (fun y_ => some (Value.int y_)) (Eq.trans (b := (mkX (fmS tx (tM0 pa mr) 0 nb).1 n z 0 ((fmS tx (tM0 pa mr) 0 nb).2.2 + 1)).2) ((congrArg Prod.snd (mk_stop hinv66 li c14)).symm) (Eq.symm (xv_0 (K := kRunM tx pa mr nb) (if_pos hwh_))))) dX6_run_89
            · have c14 := bI_1 c14
              refine lv_iinc (v := nI (i + 1)) (lv' := [(2, .int (nI (i + 1))), (0, .ref (q 0)), (1, .int 1)]) hx hb dX6_run_82 hl (k := 2) rfl (nI_1 _) (by decide) rfl (fun ls hl => ?_)
              refine lv_goto (tgt := 66) hx hb dX6_run_85 (by decide) ?_
              have hP := va_P_eq (w2 := moW cI q (mkQ (fmS tx (tM0 pa mr) 0 nb).1 z (i + 1)) (svH hi z u) tx ((fmS tx (tM0 pa mr) 0 nb).1) ke (upd (upd (upd ((fmS tx (tM0 pa mr) 0 nb).2.1) 2 0) 0 (nI (min (u + 1) 6))) 1 0) hs wr) (congrArg (fun z_ => moW cI q z_ (svH hi z u) tx (fmS tx (tM0 pa mr) 0 nb).1 ke (upd (upd (upd ((fmS tx (tM0 pa mr) 0 nb).2.1) 2 0) 0 (nI (min (u + 1) 6))) 1 0) hs wr) (if_pos c14)) hP
              have hD := va_D_eq (w2 := moW cI q (mkQ (fmS tx (tM0 pa mr) 0 nb).1 z (i + 1)) (svH hi z u) tx ((fmS tx (tM0 pa mr) 0 nb).1) ke (upd (upd (upd ((fmS tx (tM0 pa mr) 0 nb).2.1) 2 0) 0 (nI (min (u + 1) 6))) 1 0) hs wr) (congrArg (fun z_ => moW cI q z_ (svH hi z u) tx (fmS tx (tM0 pa mr) 0 nb).1 ke (upd (upd (upd ((fmS tx (tM0 pa mr) 0 nb).2.1) 2 0) 0 (nI (min (u + 1) 6))) 1 0) hs wr) (if_pos c14)) hD
              exact ih66 (i + 1) (by omega) (mk_inv hinv66 li c14) _ _ hP hD hS ls (lv_sub hl [1, 2, 0] rfl)
        have hl := (congrArg (fun qv_ => lv_has ls 3 [(2, qv_), (1, .int 1), (0, .ref (q 0))]) (show Value.int 0 = .int (nI 0) from congrArg Value.int (rfl))).mp hl
        have hP := va_P_eq (w2 := moW cI q (mkQ (fmS tx (tM0 pa mr) 0 nb).1 z 0) (svH hi z u) tx ((fmS tx (tM0 pa mr) 0 nb).1) ke (upd (upd (upd ((fmS tx (tM0 pa mr) 0 nb).2.1) 2 0) 0 (nI (min (u + 1) 6))) 1 0) hs wr) (rfl) hP
        have hD := va_D_eq (w2 := moW cI q (mkQ (fmS tx (tM0 pa mr) 0 nb).1 z 0) (svH hi z u) tx ((fmS tx (tM0 pa mr) 0 nb).1) ke (upd (upd (upd ((fmS tx (tM0 pa mr) 0 nb).2.1) 2 0) 0 (nI (min (u + 1) 6))) 1 0) hs wr) (rfl) hD
        exact K66 ((fmS tx (tM0 pa mr) 0 nb).2.2 + 1) 0 (by omega) rfl _ _ hP hD hS ls (lv_sub hl [2, 1, 0] rfl)
end XB
