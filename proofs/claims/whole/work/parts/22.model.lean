/-! The reference's weeks, saves and asks. -/
theorem rustZ_in {z : Nat → Int32} {j k : Nat} {r : Int32} : ∀ {n : Nat}, k < n → rustZ z j r n (25 + 16 * j + k) = maxP (z (25 + 16 * j + k) - r) 0
  | 0, h => absurd h (by omega)
  | n + 1, h => by
    rw [rustZ]
    by_cases e : k = n
    · subst e; exact upd_eq rfl
    · rw [upd_ne (by omega)]; exact rustZ_in (by omega)
theorem wkM_eq {z : Nat → Int32} {j : Nat} : wkM z j = ewZ z j := by
  unfold wkM ewZ
  split
  · funext q
    by_cases hq : 25 + 16 * j ≤ q ∧ q < 25 + 16 * j + 5
    · obtain ⟨k, hk, rfl⟩ : ∃ k, k < 5 ∧ q = 25 + 16 * j + k := ⟨q - (25 + 16 * j), by omega, by omega⟩
      rw [upd_ne (by omega), upd_ne (by omega), upd_ne (by omega), rustZ_in hk, rustZ_in hk]
      simp (disch := omega) only [upd_ne]
    · rw [rustZ_at (z := upd (upd (upd (upd (upd z (14 + 16 * j + 3) (idlP z j)) (14 + 16 * j + 4) 0) (14 + 16 * j + 9) (z (14 + 16 * j + 9) + decP (z (14 + 16 * j + 1)) (z 3))) (14 + 16 * j + 1) (z (14 + 16 * j + 1) - decP (z (14 + 16 * j + 1)) (z 3))) 6 (z 6 + decP (z (14 + 16 * j + 1)) (z 3))) 5 hq]
      by_cases h1 : q = 6
      · subst h1; rw [upd_eq rfl, upd_eq rfl]
      rw [upd_ne h1, upd_ne h1]
      by_cases h2 : q = 14 + 16 * j + 1
      · subst h2; rw [upd_ne (by omega), upd_eq rfl, upd_eq rfl, Int32.sub_eq_add_neg]
      rw [upd_ne h2]
      by_cases h3 : q = 14 + 16 * j + 9
      · subst h3; rw [upd_eq rfl, upd_eq rfl]
      rw [upd_ne h3, upd_ne h2, upd_ne h3, rustZ_at _ hq]
  · rfl
theorem dealM_eq {z : Nat → Int32} {g t k : Nat} {mn : Int32} (h : g ≠ t) (hk : k < 5) : dealM z g t k mn = dealZ z g t k mn := by
  funext q
  unfold dealM dealZ
  by_cases h1 : q = 9
  · subst h1; simp (disch := omega) only [upd_eq, upd_ne]
  by_cases h2 : q = 25 + 16 * g + k
  · subst h2; simp (disch := omega) only [upd_eq, upd_ne]
  by_cases h3 : q = 6
  · subst h3; simp (disch := omega) only [upd_eq, upd_ne]
  by_cases h4 : q = 14 + 16 * g + 1
  · subst h4; simp (disch := omega) only [upd_eq, upd_ne]; simp only [Int32.sub_eq_add_neg, Int32.add_assoc]
  by_cases h5 : q = 14 + 16 * g + 2
  · subst h5; simp (disch := omega) only [upd_eq, upd_ne]; simp only [Int32.sub_eq_add_neg]
  by_cases h6 : q = 14 + 16 * g + 4
  · subst h6; simp (disch := omega) only [upd_eq, upd_ne]
  by_cases h7 : q = 14 + 16 * g + 5
  · subst h7; simp (disch := omega) only [upd_eq, upd_ne]
  by_cases h8 : q = 14 + 16 * g + 7
  · subst h8; simp (disch := omega) only [upd_eq, upd_ne]
  by_cases h9 : q = 14 + 16 * t + 1
  · subst h9; simp (disch := omega) only [upd_eq, upd_ne]; simp only [Int32.sub_eq_add_neg]
  by_cases h10 : q = 14 + 16 * t + 4
  · subst h10; simp (disch := omega) only [upd_eq, upd_ne]
  by_cases h11 : q = 14 + 16 * t + 6
  · subst h11; simp (disch := omega) only [upd_eq, upd_ne]
  by_cases h12 : q = 14 + 16 * t + 8
  · subst h12; simp (disch := omega) only [upd_eq, upd_ne]
  rw [upd_ne h1, upd_ne h2, upd_ne h6, upd_ne h7, upd_ne h8, upd_ne h3, upd_ne h5, upd_ne h4, upd_ne h10, upd_ne h11, upd_ne h12, upd_ne h9, upd_ne h1, upd_ne h3, upd_ne h4, upd_ne h5, upd_ne h2, upd_ne h6, upd_ne h7, upd_ne h8, upd_ne h4, upd_ne h10, upd_ne h11, upd_ne h12, upd_ne h9]
theorem ewZ_bool {z : Nat → Int32} {j : Nat} (h : hBool z) : hBool (ewZ z j) := by
  intro i hi
  obtain ⟨a, b⟩ := h i hi
  unfold ewZ
  by_cases e : i = j
  · subst e
    split
    · rw [rustZ_at 5 (by omega), rustZ_at 5 (by omega)]
      simp (disch := omega) only [upd_eq, upd_ne]
      exact ⟨a, Or.inl trivial⟩
    · simp (disch := omega) only [upd_eq, upd_ne]
      exact ⟨a, Or.inl trivial⟩
  · split
    · rw [rustZ_at 5 (by omega), rustZ_at 5 (by omega)]
      simp (disch := omega) only [upd_eq, upd_ne]
      exact ⟨a, b⟩
    · simp (disch := omega) only [upd_eq, upd_ne]
      exact ⟨a, b⟩
theorem ewkZ_bool {z : Nat → Int32} (h : hBool z) : ∀ i : Nat, hBool (ewkZ z i)
  | 0 => h
  | i + 1 => by
    rw [ewkZ]
    split
    · exact ewkZ_bool h i
    · exact ewZ_bool (ewkZ_bool h i)
theorem upd_bool {z : Nat → Int32} {k : Nat} {v : Int32} (hk : k < 14) (h : hBool z) : hBool (upd z k v) := by
  intro i hi
  rw [upd_ne (by omega), upd_ne (by omega)]
  exact h i hi
theorem wkI_bool {z : Nat → Int32} {n : Nat} (h : hBool z) : ∀ i : Nat, hBool (wkI z n i)
  | 0 => h
  | i + 1 => ewkZ_bool (upd_bool (by decide) (wkI_bool h i)) n
/-- the history with i places of the row z in state s -/
def cpH (h z : Nat → Int32) (s i : Nat) : Nat → Int32 := fun q => if 142 * s ≤ q ∧ q < 142 * s + i then z (q - 142 * s) else h q
theorem cpH_0 {h z : Nat → Int32} {s : Nat} : cpH h z s 0 = h := by
  funext q; exact if_neg (by omega)
theorem cpH_s {h z : Nat → Int32} {s i : Nat} : upd (cpH h z s i) (142 * s + i) (z i) = cpH h z s (i + 1) := by
  funext q
  by_cases e : q = 142 * s + i
  · subst e
    rw [upd_eq rfl]
    show z i = if _ then _ else _
    rw [if_pos (by omega), show 142 * s + i - 142 * s = i by omega]
  · rw [upd_ne e]
    show (if _ then _ else _) = if _ then _ else _
    by_cases h1 : 142 * s ≤ q ∧ q < 142 * s + i
    · rw [if_pos h1, if_pos (by omega)]
    · rw [if_neg h1, if_neg (by omega)]
def shI (h : Nat → Int32) (i : Nat) : Nat → Int32 := fun q => if q + 142 < i then h (q + 142) else h q
theorem shI_0 {h : Nat → Int32} : shI h 142 = h := by
  funext q; exact if_neg (by omega)
theorem shI_s {h : Nat → Int32} {i : Nat} (hi : 142 ≤ i) : upd (shI h i) (i - 142) (shI h i i) = shI h (i + 1) := by
  funext q
  by_cases e : q = i - 142
  · have e0 : q + 142 = i := by omega
    have e1 : shI h i i = h i := if_neg (by omega)
    have e2 : shI h (i + 1) q = h (q + 142) := if_pos (by omega)
    rw [e2, e0, upd_eq e, e1]
  · rw [upd_ne e]
    unfold shI
    by_cases h1 : q + 142 < i
    · rw [if_pos h1, if_pos (by omega)]
    · rw [if_neg h1, if_neg (by omega)]
def svH (h z : Nat → Int32) (s : Nat) : Nat → Int32 := if s = 6 then cpH (shI h 852) z 5 142 else cpH h z s 142
theorem upd_upd {f : Nat → Int32} {i : Nat} {a b : Int32} : upd (upd f i a) i b = upd f i b := by
  funext q
  by_cases e : q = i
  · rw [upd_eq e, upd_eq e]
  · rw [upd_ne e, upd_ne e, upd_ne e]
theorem nI_neq {a b : Nat} (ha : a < 2 ^ 31) (hb : b < 2 ^ 31) (h : a ≠ b) : ¬ nI a = nI b := by
  intro q
  have := congrArg Int32.toInt q
  rw [nI_toInt ha, nI_toInt hb] at this
  omega
def gsI (x : Int32) : Int32 := if x = 0 then 9999 else if x = 1 then 999 else if x = 2 then 20 else if x = 3 then 100 else 300
theorem gsI_at {j : Nat} (h : j < 5) : gsI (nI j) = gsA j := by
  have : j = 0 ∨ j = 1 ∨ j = 2 ∨ j = 3 ∨ j = 4 := by omega
  rcases this with rfl | rfl | rfl | rfl | rfl <;> decide
theorem z_cases3 (x : Int32) : x = 0 ∨ x = 1 ∨ x = 2 ∨ x = 3 ∨ (x.toInt < 0 ∨ 3 < x.toInt) := by
  by_cases h : x.toInt < 0 ∨ 3 < x.toInt
  · simp [h]
  · have h1 : ∃ k : Nat, k ≤ 3 ∧ x = nI k := by
      refine ⟨x.toInt.toNat, by omega, ?_⟩
      apply Int32.toInt_inj.mp
      rw [nI_toInt (by omega)]; omega
    obtain ⟨k, hk, rfl⟩ := h1
    have : k = 0 ∨ k = 1 ∨ k = 2 ∨ k = 3 := by omega
    rcases this with rfl | rfl | rfl | rfl <;> decide
theorem z_out3 {x : Int32} (h : x.toInt < 0 ∨ 3 < x.toInt) : ¬ x = 0 ∧ ¬ x = 1 ∧ ¬ x = 2 ∧ ¬ x = 3 := by
  refine ⟨?_, ?_, ?_, ?_⟩ <;> (intro q; rw [q] at h; revert h; decide)
abbrev hVote (z : Nat → Int32) : Prop := ∀ j : Nat, j < 8 → (((z 12 ||| z 13) >>> (nI j &&& 31)) &&& 1 = 1 ↔ ¬ z (142 + j) = 0)
theorem maxP_e {x : Int32} (h : ¬ 0 < x) : 0 = maxP x 0 := by
  unfold maxP
  split
  · rfl
  · rename_i q; exact Int32.le_antisymm (z_le q) (z_le h)
theorem mnP_a {z : Nat → Int32} {j w : Nat} (hB : hBool z) (hj : j < 8) (hw : w < 12) (h : nI w < 11) : z (14 + 16 * j + w) = prpP z j (nI w) := by
  have h11 : w < 11 := (nI_ltI (a := w) (b := 11) (by omega) (by omega)).mp h
  have : w = 0 ∨ w = 1 ∨ w = 2 ∨ w = 3 ∨ w = 4 ∨ w = 5 ∨ w = 6 ∨ w = 7 ∨ w = 8 ∨ w = 9 ∨ w = 10 := by omega
  unfold prpP
  rcases this with rfl | rfl | rfl | rfl | rfl | rfl | rfl | rfl | rfl | rfl | rfl
  · rw [if_pos (by decide)]
    rcases (hB j hj).1 with q | q
    · rw [if_pos q]; exact q
    · rw [if_neg (by rw [q]; decide)]; exact q
  · rw [if_neg (by decide), if_pos (by decide)]
  · rw [if_neg (by decide), if_neg (by decide), if_pos (by decide)]
  · rw [if_neg (by decide), if_neg (by decide), if_neg (by decide), if_pos (by decide)]
  · rw [if_neg (by decide), if_neg (by decide), if_neg (by decide), if_neg (by decide), if_pos (by decide)]
    rcases (hB j hj).2 with q | q
    · rw [if_pos q]; exact q
    · rw [if_neg (by rw [q]; decide)]; exact q
  · rw [if_neg (by decide), if_neg (by decide), if_neg (by decide), if_neg (by decide), if_neg (by decide), if_pos (by decide)]
  · rw [if_neg (by decide), if_neg (by decide), if_neg (by decide), if_neg (by decide), if_neg (by decide), if_neg (by decide), if_pos (by decide)]
  · rw [if_neg (by decide), if_neg (by decide), if_neg (by decide), if_neg (by decide), if_neg (by decide), if_neg (by decide), if_neg (by decide), if_pos (by decide)]
  · rw [if_neg (by decide), if_neg (by decide), if_neg (by decide), if_neg (by decide), if_neg (by decide), if_neg (by decide), if_neg (by decide), if_neg (by decide), if_pos (by decide)]
  · rw [if_neg (by decide), if_neg (by decide), if_neg (by decide), if_neg (by decide), if_neg (by decide), if_neg (by decide), if_neg (by decide), if_neg (by decide), if_neg (by decide), if_pos (by decide)]
  · rw [if_neg (by decide), if_neg (by decide), if_neg (by decide), if_neg (by decide), if_neg (by decide), if_neg (by decide), if_neg (by decide), if_neg (by decide), if_neg (by decide), if_neg (by decide), if_pos (by decide)]
theorem mnP_b {z : Nat → Int32} {j w : Nat} (hw : w < 12) (h : ¬ nI w < 11) : bI (cvP z j) = prpP z j (nI w) := by
  have h11 : ¬ w < 11 := fun q => h (nI_lt (a := w) (b := 11) q (by omega))
  have : w = 11 := by omega
  subst this
  unfold prpP
  rw [if_neg (by decide), if_neg (by decide), if_neg (by decide), if_neg (by decide), if_neg (by decide), if_neg (by decide), if_neg (by decide), if_neg (by decide), if_neg (by decide), if_neg (by decide), if_neg (by decide)]

section XB
variable {l : Launch} {D : va_G} {cI cC cM cB cJ : ClassId} {q : Nat → Nat} {z hi tx pa ke mr : Nat → Int32} {hs : Int64} {wr : va_W}
theorem c_X6_deals (g t k : Nat) (hg : g < 8) (ht : t < 8) (hgt : g ≠ t) (hk : k < 5) (mn : Int32) : zM l D (zT cI cC cM cB cJ) yX6_deals cX6_deals 9 (some .int) ({ frames := 3, cells := 0, slots := 0, locals := 68 } : Room) [.ref (q 0), .int (nI g), .int (nI t), .int (nI k), .int mn] (moW cI q z hi tx pa ke mr hs wr) (moW cI q (dealZ z g t k mn) hi tx pa ke mr hs wr) (some (.int (valP (z (25 + 16 * g + k)) mn))) 0 0 := by
  rw [← dealM_eq hgt hk]; exact c_X6_deals0 g t k hg ht hgt hk mn
theorem c_X6_weekOf (j : Nat) (hj : j < 8) (hB : hBool z) : zM l D (zT cI cC cM cB cJ) yX6_weekOf cX6_weekOf 4 (some .int) ({ frames := 1, cells := 0, slots := 0, locals := 23 } : Room) [.ref (q 0), .int (nI j)] (moW cI q z hi tx pa ke mr hs wr) (moW cI q (ewZ z j) hi tx pa ke mr hs wr) (some (.int (ewR z j))) 0 0 := by
  rw [← wkM_eq]; exact c_X6_weekOf0 j hj hB
set_option maxHeartbeats 4000000 in
set_option maxRecDepth 100000 in
theorem c_X6_passes {n : Nat} (hn : n ≤ 8) (hz : z 5 = nI n) (hB : hBool z) {wk : Nat} (hwk : wk < 1000) : zM l D (zT cI cC cM cB cJ) yX6_passes cX6_passes 6 (some .int) ({ frames := 2, cells := 0, slots := 0, locals := 46 } : Room) [.ref (q 0), .int (nI wk)] (moW cI q z hi tx pa ke mr hs wr) (moW cI q (wkI z n wk) hi tx pa ke mr hs wr) (some (.int (wkS z n wk))) 0 0 := by
  refine z_enter (by decide) (Nat.le_of_ble_eq_true rfl) ?_
  intro p e s m below meth c A S hr hlocks hnm hN hA hK hP hD hS ls hl
  obtain ⟨hx, hb, hml, hown, hts⟩ := id S
  have hl : lv_has ls 6 [(0, .ref (q 0)), (1, .int (nI wk))] := hl
  have hP : va_P D vwCl (moW cI q z hi tx pa ke mr hs wr) s.heap := hP
  have hD : va_D A (moW cI q z hi tx pa ke mr hs wr) := hD
  refine lv_iconst (v := 0) hx hb dX6_passes_0 (by decide) ?_
  refine lv_istore_n (lv' := [(2, .int 0), (0, .ref (q 0)), (1, .int (nI wk))]) hx hb dX6_passes_1 rfl hl (by decide) rfl (fun ls hl => ?_)
  refine lv_iconst (v := 0) hx hb dX6_passes_2 (by decide) ?_
  refine lv_istore_n (lv' := [(3, .int 0), (2, .int 0), (0, .ref (q 0)), (1, .int (nI wk))]) hx hb dX6_passes_3 rfl hl (by decide) rfl (fun ls hl => ?_)
  have K4 : ∀ (n4 i : Nat), i + n4 = wk → ∀ (H : Heap) (locs : List Loc), va_P D vwCl (moW cI q (wkI z n i) hi tx pa ke mr hs wr) H → va_D A (moW cI q (wkI z n i) hi tx pa ke mr hs wr) → va_S A s.heap H locs → ∀ ls : Array Slot, lv_has ls 6 [(0, .ref (q 0)), (1, .int (nI wk)), (2, .int (wkS z n i)), (3, .int (nI i))] → W p l e ({ frames := 2, cells := 0, slots := 0, locals := 46 } : Room) s m ([.ref (q 0), .int (nI wk)] : List Value).toArray below meth c H locs 0 0 (MQ below (zQ D (zT cI cC cM cB cJ) (moW cI q (wkI z n wk) hi tx pa ke mr hs wr) (some (.int (wkS z n wk))) A) ([.ref (q 0), .int (nI wk)] : List Value).toArray s 0 0 A) (F0 m 4 ls []) := by
    intro n4
    induction n4 with
    | zero =>
      intro i h_i H locs hP hD hS ls hl
      have ei : wk = i := by omega
      subst ei
      refine lv_iload_n hx hb dX6_passes_4 rfl (lv_at hl 3 rfl) ?_
      refine lv_iload_n hx hb dX6_passes_5 rfl (lv_at hl 1 rfl) ?_
      refine lv_icmp_ge (tgt := 72) hx hb dX6_passes_6 (by decide) (fun c1 => ?_) (fun c1 => absurd (nI_le (a := wk) (b := wk) (by omega) (by omega)) c1)
      have c1 := z_nlt c1
      refine lv_iload_n hx hb dX6_passes_72 rfl (lv_at hl 2 rfl) ?_
      exact z_iret hx hb hr hlocks hP hD hK hS (rfl) (by first | rfl | (simp only [minP, maxP, c1, not_true_eq_false, not_false_eq_true, and_self, and_true, true_and, and_false, false_and, or_true, true_or, or_false, false_or, if_true, if_false, ite_true, ite_false]; done) | (simp [minP, maxP, c1]; done) | (simp_all [minP, maxP]; done)) dX6_passes_73
    | succ n4 ih4 =>
      intro i h_i H locs hP hD hS ls hl
      have li : i < wk := by omega
      refine lv_iload_n hx hb dX6_passes_4 rfl (lv_at hl 3 rfl) ?_
      refine lv_iload_n hx hb dX6_passes_5 rfl (lv_at hl 1 rfl) ?_
      refine lv_icmp_ge (tgt := 72) hx hb dX6_passes_6 (by decide) (fun c2 => absurd c2 (nI_ge (a := i) (b := wk) (by omega) (by omega))) (fun c2 => ?_)
      have c2 := z_lt c2
      refine lv_aload_n hx hb dX6_passes_9 rfl (lv_at hl 0 rfl) ?_
      refine va_get (v := .ref (q 1)) hx hb hts inTX6 hown hK hP (0) (mo_0) rfl 0 (by decide) (hts _ qf_X6_7) (fun _ h9 => h9) (rfl) dX6_passes_10 ?_
      refine lv_bipush (v := 8) hx hb dX6_passes_13 (by decide) ?_
      refine lv_dup2_11 hx hb dX6_passes_15 rfl rfl ?_
      refine va_iald hx hb hK hP (1) 0 (mo_1) rfl (vp_in_nI (show 8 < 142 by decide) (by omega)) dX6_passes_16 ?_
      refine z_top (v2 := .int (wkI z n i 8)) (congrArg Value.int (((congrArg (zfn (wkI z n i)) (z_cl (k := 8) rfl)).trans (zfn_at (by omega))).trans (rfl))) ?_
      refine lv_iconst (v := 1) hx hb dX6_passes_17 (by decide) ?_
      refine lv_iadd hx hb dX6_passes_18  ?_
      refine z_iast (ws2 := moW cI q (upd (wkI z n i) 8 ((wkI z n i 8) + 1)) hi tx pa ke mr hs wr) hx hb hK hP hD hS (1) 0 (mo_1) rfl (vp_in_nI (show 8 < 142 by decide) (by omega)) dX6_passes_19 (mo_w1 (z_cl (k := 8) rfl) (by omega)) (fun H locs hP hD hS => ?_)
      refine lv_iconst (v := 0) hx hb dX6_passes_20 (by decide) ?_
      refine lv_istore (lv' := [(4, .int 0), (0, .ref (q 0)), (1, .int (nI wk)), (2, .int (wkS z n i)), (3, .int (nI i))]) hx hb dX6_passes_21 hl (by decide) rfl (fun ls hl => ?_)
      have K23 : ∀ (n23 j : Nat), j + n23 = n → ∀ (H : Heap) (locs : List Loc), va_P D vwCl (moW cI q (ewkZ (upd (wkI z n i) 8 (wkI z n i 8 + 1)) j) hi tx pa ke mr hs wr) H → va_D A (moW cI q (ewkZ (upd (wkI z n i) 8 (wkI z n i 8 + 1)) j) hi tx pa ke mr hs wr) → va_S A s.heap H locs → ∀ ls : Array Slot, lv_has ls 6 [(0, .ref (q 0)), (1, .int (nI wk)), (2, .int (wkS z n i + ewkR (upd (wkI z n i) 8 (wkI z n i 8 + 1)) j)), (3, .int (nI i)), (4, .int (nI j))] → W p l e ({ frames := 2, cells := 0, slots := 0, locals := 46 } : Room) s m ([.ref (q 0), .int (nI wk)] : List Value).toArray below meth c H locs 0 0 (MQ below (zQ D (zT cI cC cM cB cJ) (moW cI q (wkI z n wk) hi tx pa ke mr hs wr) (some (.int (wkS z n wk))) A) ([.ref (q 0), .int (nI wk)] : List Value).toArray s 0 0 A) (F0 m 23 ls []) := by
        intro n23
        induction n23 with
        | zero =>
          intro j h_j H locs hP hD hS ls hl
          have ej : n = j := by omega
          subst ej
          refine lv_iload hx hb dX6_passes_23 (lv_at hl 4 rfl) ?_
          refine lv_aload_n hx hb dX6_passes_25 rfl (lv_at hl 0 rfl) ?_
          refine va_get (v := .ref (q 1)) hx hb hts inTX6 hown hK hP (0) (mo_0) rfl 0 (by decide) (hts _ qf_X6_7) (fun _ h9 => h9) (rfl) dX6_passes_26 ?_
          refine lv_iconst (v := 5) hx hb dX6_passes_29 (by decide) ?_
          refine va_iald hx hb hK hP (1) 0 (mo_1) rfl (vp_in_nI (show 5 < 142 by decide) (by omega)) dX6_passes_30 ?_
          refine z_top (v2 := .int (nI n)) (congrArg Value.int (((congrArg (zfn (ewkZ (upd (wkI z n i) 8 (wkI z n i 8 + 1)) n)) (z_cl (k := 5) rfl)).trans (zfn_at (by omega))).trans ((ewkZ_at _ (by omega) (by omega)).trans ((upd_ne (by decide)).trans ((wkI_at _ (by omega) (by omega) (by omega)).trans hz))))) ?_
          refine lv_icmp_ge (tgt := 66) hx hb dX6_passes_31 (by decide) (fun c3 => ?_) (fun c3 => absurd (nI_le (a := n) (b := n) (by omega) (by omega)) c3)
          have c3 := z_nlt c3
          refine lv_iinc (v := nI (i + 1)) (lv' := [(3, .int (nI (i + 1))), (0, .ref (q 0)), (1, .int (nI wk)), (2, .int (wkS z n i + ewkR (upd (wkI z n i) 8 (wkI z n i 8 + 1)) n)), (4, .int (nI n))]) hx hb dX6_passes_66 hl (k := 3) rfl (nI_1 _) (by decide) rfl (fun ls hl => ?_)
          refine lv_goto (tgt := 4) hx hb dX6_passes_69 (by decide) ?_
          have hl := (congrArg (fun qv_ => lv_has ls 6 [(3, .int (nI (i + 1))), (0, .ref (q 0)), (1, .int (nI wk)), (2, qv_), (4, .int (nI n))]) (show Value.int (wkS z n i + ewkR (upd (wkI z n i) 8 (wkI z n i 8 + 1)) n) = .int (wkS z n (i + 1)) from congrArg Value.int (rfl))).mp hl
          have hP := va_P_eq (w2 := moW cI q (wkI z n (i + 1)) hi tx pa ke mr hs wr) (congrArg (fun z_ => moW cI q z_ hi tx pa ke mr hs wr) (rfl)) hP
          have hD := va_D_eq (w2 := moW cI q (wkI z n (i + 1)) hi tx pa ke mr hs wr) (congrArg (fun z_ => moW cI q z_ hi tx pa ke mr hs wr) (rfl)) hD
          exact ih4 (i + 1) (by omega) _ _ hP hD hS ls (lv_sub hl [1, 2, 3, 0] rfl)
        | succ n23 ih23 =>
          intro j h_j H locs hP hD hS ls hl
          have lj : j < n := by omega
          refine lv_iload hx hb dX6_passes_23 (lv_at hl 4 rfl) ?_
          refine lv_aload_n hx hb dX6_passes_25 rfl (lv_at hl 0 rfl) ?_
          refine va_get (v := .ref (q 1)) hx hb hts inTX6 hown hK hP (0) (mo_0) rfl 0 (by decide) (hts _ qf_X6_7) (fun _ h9 => h9) (rfl) dX6_passes_26 ?_
          refine lv_iconst (v := 5) hx hb dX6_passes_29 (by decide) ?_
          refine va_iald hx hb hK hP (1) 0 (mo_1) rfl (vp_in_nI (show 5 < 142 by decide) (by omega)) dX6_passes_30 ?_
          refine z_top (v2 := .int (nI n)) (congrArg Value.int (((congrArg (zfn (ewkZ (upd (wkI z n i) 8 (wkI z n i 8 + 1)) j)) (z_cl (k := 5) rfl)).trans (zfn_at (by omega))).trans ((ewkZ_at _ (by omega) (by omega)).trans ((upd_ne (by decide)).trans ((wkI_at _ (by omega) (by omega) (by omega)).trans hz))))) ?_
          refine lv_icmp_ge (tgt := 66) hx hb dX6_passes_31 (by decide) (fun c4 => absurd c4 (nI_ge (a := j) (b := n) (by omega) (by omega))) (fun c4 => ?_)
          have c4 := z_lt c4
          refine lv_aload_n hx hb dX6_passes_34 rfl (lv_at hl 0 rfl) ?_
          refine lv_iload hx hb dX6_passes_35 (lv_at hl 4 rfl) ?_
          refine z_callV1 (rest := []) S (c_X6_isThere j (show j < 8 by omega) (ewkZ_bool (upd_bool (by decide) (wkI_bool hB _)) _ j (show j < 8 by omega)).1) qm_X6_68 v_X6_isThere ⟨Nat.le_of_ble_eq_true rfl, Nat.le_of_ble_eq_true rfl⟩ rfl rfl hN hK hP hD hS hA (0) (mo_0) rfl rfl hl.1 rfl (Nat.le_of_ble_eq_true rfl) dX6_passes_37 ⟨Nat.le_of_ble_eq_true rfl, Nat.le_of_ble_eq_true rfl⟩ (fun H locs hP hD hS => ?_)
          refine lv_if_eq (tgt := 52) hx hb dX6_passes_40 (by decide) (fun c5 => ?_) (fun c5 => ?_)
          · have c5 := bI_0n c5
            refine lv_iconst (v := 0) hx hb dX6_passes_52 (by decide) ?_
            refine lv_istore (lv' := [(5, .int 0), (0, .ref (q 0)), (1, .int (nI wk)), (2, .int (wkS z n i + ewkR (upd (wkI z n i) 8 (wkI z n i 8 + 1)) j)), (3, .int (nI i)), (4, .int (nI j))]) hx hb dX6_passes_53 hl (by decide) rfl (fun ls hl => ?_)
            refine lv_iload_n hx hb dX6_passes_55 rfl (lv_at hl 3 rfl) ?_
            refine lv_iload hx hb dX6_passes_56 (lv_at hl 0 rfl) ?_
            refine lv_iadd hx hb dX6_passes_58  ?_
            refine lv_istore_n (lv' := [(2, .int ((wkS z n i + ewkR (upd (wkI z n i) 8 (wkI z n i 8 + 1)) j) + 0)), (5, .int 0), (0, .ref (q 0)), (1, .int (nI wk)), (3, .int (nI i)), (4, .int (nI j))]) hx hb dX6_passes_59 rfl hl (by decide) rfl (fun ls hl => ?_)
            refine lv_iinc (v := nI (j + 1)) (lv' := [(4, .int (nI (j + 1))), (2, .int ((wkS z n i + ewkR (upd (wkI z n i) 8 (wkI z n i 8 + 1)) j) + 0)), (5, .int 0), (0, .ref (q 0)), (1, .int (nI wk)), (3, .int (nI i))]) hx hb dX6_passes_60 hl (k := 5) rfl (nI_1 _) (by decide) rfl (fun ls hl => ?_)
            refine lv_goto (tgt := 23) hx hb dX6_passes_63 (by decide) ?_
            have hl := (congrArg (fun qv_ => lv_has ls 6 [(4, .int (nI (j + 1))), (2, qv_), (5, .int 0), (0, .ref (q 0)), (1, .int (nI wk)), (3, .int (nI i))]) (show Value.int ((wkS z n i + ewkR (upd (wkI z n i) 8 (wkI z n i 8 + 1)) j) + 0) = .int (wkS z n i + ewkR (upd (wkI z n i) 8 (wkI z n i 8 + 1)) (j + 1)) from congrArg Value.int (by rw [ewkR, if_pos c5]; exact Int32.add_zero _))).mp hl
            have hP := va_P_eq (w2 := moW cI q (ewkZ (upd (wkI z n i) 8 (wkI z n i 8 + 1)) (j + 1)) hi tx pa ke mr hs wr) (congrArg (fun z_ => moW cI q z_ hi tx pa ke mr hs wr) (by rw [ewkZ, if_pos c5])) hP
            have hD := va_D_eq (w2 := moW cI q (ewkZ (upd (wkI z n i) 8 (wkI z n i 8 + 1)) (j + 1)) hi tx pa ke mr hs wr) (congrArg (fun z_ => moW cI q z_ hi tx pa ke mr hs wr) (by rw [ewkZ, if_pos c5])) hD
            exact ih23 (j + 1) (by omega) _ _ hP hD hS ls (lv_sub hl [3, 4, 1, 5, 0] rfl)
          · have c5 := bI_1 c5
            refine lv_aload_n hx hb dX6_passes_43 rfl (lv_at hl 0 rfl) ?_
            refine lv_iload hx hb dX6_passes_44 (lv_at hl 4 rfl) ?_
            refine z_callV1 (rest := []) S (c_X6_weekOf j (show j < 8 by omega) (ewkZ_bool (upd_bool (by decide) (wkI_bool hB _)) _)) qm_X6_99 v_X6_weekOf ⟨Nat.le_of_ble_eq_true rfl, Nat.le_of_ble_eq_true rfl⟩ rfl rfl hN hK hP hD hS hA (0) (mo_0) rfl rfl hl.1 rfl (Nat.le_of_ble_eq_true rfl) dX6_passes_46 ⟨Nat.le_of_ble_eq_true rfl, Nat.le_of_ble_eq_true rfl⟩ (fun H locs hP hD hS => ?_)
            refine lv_goto (tgt := 53) hx hb dX6_passes_49 (by decide) ?_
            refine lv_istore (lv' := [(5, .int (ewR (ewkZ (upd (wkI z n i) 8 (wkI z n i 8 + 1)) j) j)), (0, .ref (q 0)), (1, .int (nI wk)), (2, .int (wkS z n i + ewkR (upd (wkI z n i) 8 (wkI z n i 8 + 1)) j)), (3, .int (nI i)), (4, .int (nI j))]) hx hb dX6_passes_53 hl (by decide) rfl (fun ls hl => ?_)
            refine lv_iload_n hx hb dX6_passes_55 rfl (lv_at hl 3 rfl) ?_
            refine lv_iload hx hb dX6_passes_56 (lv_at hl 0 rfl) ?_
            refine lv_iadd hx hb dX6_passes_58  ?_
            refine lv_istore_n (lv' := [(2, .int ((wkS z n i + ewkR (upd (wkI z n i) 8 (wkI z n i 8 + 1)) j) + (ewR (ewkZ (upd (wkI z n i) 8 (wkI z n i 8 + 1)) j) j))), (5, .int (ewR (ewkZ (upd (wkI z n i) 8 (wkI z n i 8 + 1)) j) j)), (0, .ref (q 0)), (1, .int (nI wk)), (3, .int (nI i)), (4, .int (nI j))]) hx hb dX6_passes_59 rfl hl (by decide) rfl (fun ls hl => ?_)
            refine lv_iinc (v := nI (j + 1)) (lv' := [(4, .int (nI (j + 1))), (2, .int ((wkS z n i + ewkR (upd (wkI z n i) 8 (wkI z n i 8 + 1)) j) + (ewR (ewkZ (upd (wkI z n i) 8 (wkI z n i 8 + 1)) j) j))), (5, .int (ewR (ewkZ (upd (wkI z n i) 8 (wkI z n i 8 + 1)) j) j)), (0, .ref (q 0)), (1, .int (nI wk)), (3, .int (nI i))]) hx hb dX6_passes_60 hl (k := 5) rfl (nI_1 _) (by decide) rfl (fun ls hl => ?_)
            refine lv_goto (tgt := 23) hx hb dX6_passes_63 (by decide) ?_
            have hl := (congrArg (fun qv_ => lv_has ls 6 [(4, .int (nI (j + 1))), (2, qv_), (5, .int (ewR (ewkZ (upd (wkI z n i) 8 (wkI z n i 8 + 1)) j) j)), (0, .ref (q 0)), (1, .int (nI wk)), (3, .int (nI i))]) (show Value.int ((wkS z n i + ewkR (upd (wkI z n i) 8 (wkI z n i 8 + 1)) j) + (ewR (ewkZ (upd (wkI z n i) 8 (wkI z n i 8 + 1)) j) j)) = .int (wkS z n i + ewkR (upd (wkI z n i) 8 (wkI z n i 8 + 1)) (j + 1)) from congrArg Value.int (by rw [ewkR, if_neg c5]; exact Int32.add_assoc _ _ _))).mp hl
            have hP := va_P_eq (w2 := moW cI q (ewkZ (upd (wkI z n i) 8 (wkI z n i 8 + 1)) (j + 1)) hi tx pa ke mr hs wr) (congrArg (fun z_ => moW cI q z_ hi tx pa ke mr hs wr) (by rw [ewkZ, if_neg c5])) hP
            have hD := va_D_eq (w2 := moW cI q (ewkZ (upd (wkI z n i) 8 (wkI z n i 8 + 1)) (j + 1)) hi tx pa ke mr hs wr) (congrArg (fun z_ => moW cI q z_ hi tx pa ke mr hs wr) (by rw [ewkZ, if_neg c5])) hD
            exact ih23 (j + 1) (by omega) _ _ hP hD hS ls (lv_sub hl [3, 4, 1, 5, 0] rfl)
      have hl := (congrArg (fun qv_ => lv_has ls 6 [(4, .int 0), (0, .ref (q 0)), (1, .int (nI wk)), (2, qv_), (3, .int (nI i))]) (show Value.int (wkS z n i) = .int (wkS z n i + ewkR (upd (wkI z n i) 8 (wkI z n i 8 + 1)) 0) from congrArg Value.int ((Int32.add_zero _).symm))).mp hl
      have hl := (congrArg (fun qv_ => lv_has ls 6 [(4, qv_), (0, .ref (q 0)), (1, .int (nI wk)), (2, .int (wkS z n i + ewkR (upd (wkI z n i) 8 (wkI z n i 8 + 1)) 0)), (3, .int (nI i))]) (show Value.int 0 = .int (nI 0) from congrArg Value.int (rfl))).mp hl
      have hP := va_P_eq (w2 := moW cI q (ewkZ (upd (wkI z n i) 8 (wkI z n i 8 + 1)) 0) hi tx pa ke mr hs wr) (rfl) hP
      have hD := va_D_eq (w2 := moW cI q (ewkZ (upd (wkI z n i) 8 (wkI z n i 8 + 1)) 0) hi tx pa ke mr hs wr) (rfl) hD
      exact K23 n 0 (by omega) _ _ hP hD hS ls (lv_sub hl [1, 2, 3, 4, 0] rfl)
  have hl := (congrArg (fun qv_ => lv_has ls 6 [(3, .int 0), (2, qv_), (0, .ref (q 0)), (1, .int (nI wk))]) (show Value.int 0 = .int (wkS z n 0) from congrArg Value.int (rfl))).mp hl
  have hl := (congrArg (fun qv_ => lv_has ls 6 [(3, qv_), (2, .int (wkS z n 0)), (0, .ref (q 0)), (1, .int (nI wk))]) (show Value.int 0 = .int (nI 0) from congrArg Value.int (rfl))).mp hl
  have hP := va_P_eq (w2 := moW cI q (wkI z n 0) hi tx pa ke mr hs wr) (rfl) hP
  have hD := va_D_eq (w2 := moW cI q (wkI z n 0) hi tx pa ke mr hs wr) (rfl) hD
  exact K4 wk 0 (by omega) _ _ hP hD hS ls (lv_sub hl [2, 3, 1, 0] rfl)
set_option maxHeartbeats 4000000 in
set_option maxRecDepth 100000 in
theorem c_X6_save_a {u : Nat} (hu : u < 6) (hm : mr 0 = nI u) : zM l D (zT cI cC cM cB cJ) yX6_save cX6_save 2 none ({ frames := 0, cells := 0, slots := 0, locals := 0 } : Room) [.ref (q 0)] (moW cI q z hi tx pa ke mr hs wr) (moW cI q z (cpH hi z u 142) tx pa ke (upd mr 0 (nI (u + 1))) hs wr) none 0 0 := by
  refine z_enter (by decide) (Nat.le_of_ble_eq_true rfl) ?_
  intro p e s m below meth c A S hr hlocks hnm hN hA hK hP hD hS ls hl
  obtain ⟨hx, hb, hml, hown, hts⟩ := id S
  have hl : lv_has ls 2 [(0, .ref (q 0))] := hl
  have hP : va_P D vwCl (moW cI q z hi tx pa ke mr hs wr) s.heap := hP
  have hD : va_D A (moW cI q z hi tx pa ke mr hs wr) := hD
  refine lv_aload_n hx hb dX6_save_0 rfl (lv_at hl 0 rfl) ?_
  refine va_get (v := .int (nI u)) hx hb hts inTX6 hown hK hP (0) (mo_0) rfl 1 (by decide) (hts _ qf_X6_29) (fun _ h9 => h9) (congrArg (fun x => some (Value.int x)) (hm)) dX6_save_1 ?_
  refine lv_bipush (v := 6) hx hb dX6_save_4 (by decide) ?_
  refine lv_icmp_ne (tgt := 52) hx hb dX6_save_6 (by decide) (fun c1 => ?_) (fun c1 => absurd c1 (nI_neq (b := 6) (by omega) (by omega) (by omega)))
  refine lv_iconst (v := 0) hx hb dX6_save_52 (by decide) ?_
  refine lv_istore_n (lv' := [(1, .int 0), (0, .ref (q 0))]) hx hb dX6_save_53 rfl hl (by decide) rfl (fun ls hl => ?_)
  have K54 : ∀ (n54 i : Nat), i + n54 = 142 → ∀ (H : Heap) (locs : List Loc), va_P D vwCl (moW cI q z (cpH hi z u i) tx pa ke mr hs wr) H → va_D A (moW cI q z (cpH hi z u i) tx pa ke mr hs wr) → va_S A s.heap H locs → ∀ ls : Array Slot, lv_has ls 2 [(0, .ref (q 0)), (1, .int (nI i))] → W p l e ({ frames := 0, cells := 0, slots := 0, locals := 0 } : Room) s m ([.ref (q 0)] : List Value).toArray below meth c H locs 0 0 (MQ below (zQ D (zT cI cC cM cB cJ) (moW cI q z (cpH hi z u 142) tx pa ke (upd mr 0 (nI (u + 1))) hs wr) none A) ([.ref (q 0)] : List Value).toArray s 0 0 A) (F0 m 54 ls []) := by
    intro n54
    induction n54 with
    | zero =>
      intro i h_i H locs hP hD hS ls hl
      have ei : 142 = i := by omega
      subst ei
      refine lv_iload_n hx hb dX6_save_54 rfl (lv_at hl 1 rfl) ?_
      refine lv_sipush (v := 142) hx hb dX6_save_55 (by decide) ?_
      refine lv_icmp_ge (tgt := 88) hx hb dX6_save_58 (by decide) (fun c2 => ?_) (fun c2 => absurd (nI_le (a := 142) (b := 142) (by omega) (by omega)) c2)
      have c2 := z_nlt c2
      refine lv_aload_n hx hb dX6_save_88 rfl (lv_at hl 0 rfl) ?_
      refine lv_dup hx hb dX6_save_89 rfl ?_
      refine va_get (v := .int (nI u)) hx hb hts inTX6 hown hK hP (0) (mo_0) rfl 1 (by decide) (hts _ qf_X6_29) (fun _ h9 => h9) (congrArg (fun x => some (Value.int x)) (hm)) dX6_save_90 ?_
      refine lv_iconst (v := 1) hx hb dX6_save_93 (by decide) ?_
      refine lv_iadd hx hb dX6_save_94  ?_
      refine z_top (v2 := .int (nI (u + 1))) (congrArg Value.int (nI_add u 1)) ?_
      refine z_put (v := .int (nI (u + 1))) (ty := .int) (ws2 := moW cI q z (cpH hi z u 142) tx pa ke (upd mr 0 (nI (u + 1))) hs wr) hx hb hts inTX6 tyX6 tyX6_ok nmX6 hown hK hP hD hS (0) (mo_0) rfl 1 (by decide) (hts _ qf_X6_29) (fun _ h9 => h9) rfl (by decide +kernel) (rfl) (rfl) (Nat.le_of_ble_eq_true rfl) dX6_save_95 (mo_w0 _ mfl_s0) (fun H locs hP hD hS => ?_)
      exact z_vret hx hb hr hlocks hP hD hK hS (rfl) (rfl) dX6_save_98
    | succ n54 ih54 =>
      intro i h_i H locs hP hD hS ls hl
      have li : i < 142 := by omega
      refine lv_iload_n hx hb dX6_save_54 rfl (lv_at hl 1 rfl) ?_
      refine lv_sipush (v := 142) hx hb dX6_save_55 (by decide) ?_
      refine lv_icmp_ge (tgt := 88) hx hb dX6_save_58 (by decide) (fun c3 => absurd c3 (nI_ge (a := i) (b := 142) (by omega) (by omega))) (fun c3 => ?_)
      have c3 := z_lt c3
      refine lv_aload_n hx hb dX6_save_61 rfl (lv_at hl 0 rfl) ?_
      refine va_get (v := .ref (q 2)) hx hb hts inTX6 hown hK hP (0) (mo_0) rfl 2 (by decide) (hts _ qf_X6_13) (fun _ h9 => h9) (rfl) dX6_save_62 ?_
      refine lv_sipush (v := 142) hx hb dX6_save_65 (by decide) ?_
      refine lv_aload_n hx hb dX6_save_68 rfl (lv_at hl 0 rfl) ?_
      refine va_get (v := .int (nI u)) hx hb hts inTX6 hown hK hP (0) (mo_0) rfl 1 (by decide) (hts _ qf_X6_29) (fun _ h9 => h9) (congrArg (fun x => some (Value.int x)) (hm)) dX6_save_69 ?_
      refine lv_imul hx hb dX6_save_72  ?_
      refine z_top (v2 := .int (nI (142 * u))) (congrArg Value.int (pk_mul 142 u)) ?_
      refine lv_iload_n hx hb dX6_save_73 rfl (lv_at hl 1 rfl) ?_
      refine lv_iadd hx hb dX6_save_74  ?_
      refine z_top (v2 := .int (nI (142 * u + i))) (congrArg Value.int (nI_add (142 * u) i)) ?_
      refine lv_aload_n hx hb dX6_save_75 rfl (lv_at hl 0 rfl) ?_
      refine va_get (v := .ref (q 1)) hx hb hts inTX6 hown hK hP (0) (mo_0) rfl 0 (by decide) (hts _ qf_X6_7) (fun _ h9 => h9) (rfl) dX6_save_76 ?_
      refine lv_iload_n hx hb dX6_save_79 rfl (lv_at hl 1 rfl) ?_
      refine va_iald hx hb hK hP (1) 0 (mo_1) rfl (vp_in_nI (show i < 142 by omega) (by omega)) dX6_save_80 ?_
      refine z_top (v2 := .int (z i)) (congrArg Value.int (((congrArg (zfn z) (z_cl (k := i) rfl)).trans (zfn_at (by omega))).trans (rfl))) ?_
      refine z_iast (ws2 := moW cI q z (upd (cpH hi z u i) (142 * u + i) (z i)) tx pa ke mr hs wr) hx hb hK hP hD hS (2) 0 (mo_2) rfl (vp_in_nI (show 142 * u + i < 852 by omega) (by omega)) dX6_save_81 (mo_wa2 (z_cl (k := (142 * u + i)) rfl)) (fun H locs hP hD hS => ?_)
      refine lv_iinc (v := nI (i + 1)) (lv' := [(1, .int (nI (i + 1))), (0, .ref (q 0))]) hx hb dX6_save_82 hl (k := 1) rfl (nI_1 _) (by decide) rfl (fun ls hl => ?_)
      refine lv_goto (tgt := 54) hx hb dX6_save_85 (by decide) ?_
      have hP := va_P_eq (w2 := moW cI q z (cpH hi z u (i + 1)) tx pa ke mr hs wr) (congrArg (fun h_ => moW cI q z h_ tx pa ke mr hs wr) (cpH_s)) hP
      have hD := va_D_eq (w2 := moW cI q z (cpH hi z u (i + 1)) tx pa ke mr hs wr) (congrArg (fun h_ => moW cI q z h_ tx pa ke mr hs wr) (cpH_s)) hD
      exact ih54 (i + 1) (by omega) _ _ hP hD hS ls (lv_sub hl [1, 0] rfl)
  have hl := (congrArg (fun qv_ => lv_has ls 2 [(1, qv_), (0, .ref (q 0))]) (show Value.int 0 = .int (nI 0) from congrArg Value.int (rfl))).mp hl
  have hP := va_P_eq (w2 := moW cI q z (cpH hi z u 0) tx pa ke mr hs wr) (congrArg (fun h_ => moW cI q z h_ tx pa ke mr hs wr) (cpH_0.symm)) hP
  have hD := va_D_eq (w2 := moW cI q z (cpH hi z u 0) tx pa ke mr hs wr) (congrArg (fun h_ => moW cI q z h_ tx pa ke mr hs wr) (cpH_0.symm)) hD
  exact K54 142 0 (by omega) _ _ hP hD hS ls (lv_sub hl [1, 0] rfl)
set_option maxHeartbeats 4000000 in
set_option maxRecDepth 100000 in
theorem c_X6_save_b (hm : mr 0 = 6) : zM l D (zT cI cC cM cB cJ) yX6_save cX6_save 2 none ({ frames := 0, cells := 0, slots := 0, locals := 0 } : Room) [.ref (q 0)] (moW cI q z hi tx pa ke mr hs wr) (moW cI q z (cpH (shI hi 852) z 5 142) tx pa ke (upd (upd mr 0 5) 0 6) hs wr) none 0 0 := by
  refine z_enter (by decide) (Nat.le_of_ble_eq_true rfl) ?_
  intro p e s m below meth c A S hr hlocks hnm hN hA hK hP hD hS ls hl
  obtain ⟨hx, hb, hml, hown, hts⟩ := id S
  have hl : lv_has ls 2 [(0, .ref (q 0))] := hl
  have hP : va_P D vwCl (moW cI q z hi tx pa ke mr hs wr) s.heap := hP
  have hD : va_D A (moW cI q z hi tx pa ke mr hs wr) := hD
  refine lv_aload_n hx hb dX6_save_0 rfl (lv_at hl 0 rfl) ?_
  refine va_get (v := .int 6) hx hb hts inTX6 hown hK hP (0) (mo_0) rfl 1 (by decide) (hts _ qf_X6_29) (fun _ h9 => h9) (congrArg (fun x => some (Value.int x)) (hm)) dX6_save_1 ?_
  refine lv_bipush (v := 6) hx hb dX6_save_4 (by decide) ?_
  refine lv_icmp_ne (tgt := 52) hx hb dX6_save_6 (by decide) (fun c1 => absurd c1 (by decide)) (fun c1 => ?_)
  refine lv_sipush (v := 142) hx hb dX6_save_9 (by decide) ?_
  refine lv_istore_n (lv' := [(1, .int 142), (0, .ref (q 0))]) hx hb dX6_save_12 rfl hl (by decide) rfl (fun ls hl => ?_)
  have K13 : ∀ (n13 i : Nat), i + n13 = 852 → 142 ≤ i → ∀ (H : Heap) (locs : List Loc), va_P D vwCl (moW cI q z (shI hi i) tx pa ke mr hs wr) H → va_D A (moW cI q z (shI hi i) tx pa ke mr hs wr) → va_S A s.heap H locs → ∀ ls : Array Slot, lv_has ls 2 [(0, .ref (q 0)), (1, .int (nI i))] → W p l e ({ frames := 0, cells := 0, slots := 0, locals := 0 } : Room) s m ([.ref (q 0)] : List Value).toArray below meth c H locs 0 0 (MQ below (zQ D (zT cI cC cM cB cJ) (moW cI q z (cpH (shI hi 852) z 5 142) tx pa ke (upd (upd mr 0 5) 0 6) hs wr) none A) ([.ref (q 0)] : List Value).toArray s 0 0 A) (F0 m 13 ls []) := by
    intro n13
    induction n13 with
    | zero =>
      intro i h_i hinv13 H locs hP hD hS ls hl
      have ei : 852 = i := by omega
      subst ei
      refine lv_iload_n hx hb dX6_save_13 rfl (lv_at hl 1 rfl) ?_
      refine lv_sipush (v := 852) hx hb dX6_save_14 (by decide) ?_
      refine lv_icmp_ge (tgt := 42) hx hb dX6_save_17 (by decide) (fun c2 => ?_) (fun c2 => absurd (nI_le (a := 852) (b := 852) (by omega) (by omega)) c2)
      have c2 := z_nlt c2
      refine lv_aload_n hx hb dX6_save_42 rfl (lv_at hl 0 rfl) ?_
      refine lv_dup hx hb dX6_save_43 rfl ?_
      refine va_get (v := .int 6) hx hb hts inTX6 hown hK hP (0) (mo_0) rfl 1 (by decide) (hts _ qf_X6_29) (fun _ h9 => h9) (congrArg (fun x => some (Value.int x)) (hm)) dX6_save_44 ?_
      refine lv_iconst (v := 1) hx hb dX6_save_47 (by decide) ?_
      refine lv_isub hx hb dX6_save_48  ?_
      refine z_top (v2 := .int 5) (congrArg Value.int (show (6 - 1 : Int32) = 5 by decide)) ?_
      refine z_put (v := .int 5) (ty := .int) (ws2 := moW cI q z (shI hi 852) tx pa ke (upd mr 0 5) hs wr) hx hb hts inTX6 tyX6 tyX6_ok nmX6 hown hK hP hD hS (0) (mo_0) rfl 1 (by decide) (hts _ qf_X6_29) (fun _ h9 => h9) rfl (by decide +kernel) (rfl) (rfl) (Nat.le_of_ble_eq_true rfl) dX6_save_49 (mo_w0 _ mfl_s0) (fun H locs hP hD hS => ?_)
      refine lv_iconst (v := 0) hx hb dX6_save_52 (by decide) ?_
      refine lv_istore_n (lv' := [(1, .int 0), (0, .ref (q 0))]) hx hb dX6_save_53 rfl hl (by decide) rfl (fun ls hl => ?_)
      have K54 : ∀ (n54 i : Nat), i + n54 = 142 → ∀ (H : Heap) (locs : List Loc), va_P D vwCl (moW cI q z (cpH (shI hi 852) z 5 i) tx pa ke (upd mr 0 5) hs wr) H → va_D A (moW cI q z (cpH (shI hi 852) z 5 i) tx pa ke (upd mr 0 5) hs wr) → va_S A s.heap H locs → ∀ ls : Array Slot, lv_has ls 2 [(0, .ref (q 0)), (1, .int (nI i))] → W p l e ({ frames := 0, cells := 0, slots := 0, locals := 0 } : Room) s m ([.ref (q 0)] : List Value).toArray below meth c H locs 0 0 (MQ below (zQ D (zT cI cC cM cB cJ) (moW cI q z (cpH (shI hi 852) z 5 142) tx pa ke (upd (upd mr 0 5) 0 6) hs wr) none A) ([.ref (q 0)] : List Value).toArray s 0 0 A) (F0 m 54 ls []) := by
        intro n54
        induction n54 with
        | zero =>
          intro i h_i H locs hP hD hS ls hl
          have ei : 142 = i := by omega
          subst ei
          refine lv_iload_n hx hb dX6_save_54 rfl (lv_at hl 1 rfl) ?_
          refine lv_sipush (v := 142) hx hb dX6_save_55 (by decide) ?_
          refine lv_icmp_ge (tgt := 88) hx hb dX6_save_58 (by decide) (fun c3 => ?_) (fun c3 => absurd (nI_le (a := 142) (b := 142) (by omega) (by omega)) c3)
          have c3 := z_nlt c3
          refine lv_aload_n hx hb dX6_save_88 rfl (lv_at hl 0 rfl) ?_
          refine lv_dup hx hb dX6_save_89 rfl ?_
          refine va_get (v := .int 5) hx hb hts inTX6 hown hK hP (0) (mo_0) rfl 1 (by decide) (hts _ qf_X6_29) (fun _ h9 => h9) (congrArg (fun x => some (Value.int x)) (upd_eq rfl)) dX6_save_90 ?_
          refine lv_iconst (v := 1) hx hb dX6_save_93 (by decide) ?_
          refine lv_iadd hx hb dX6_save_94  ?_
          refine z_top (v2 := .int 6) (congrArg Value.int (show (5 + 1 : Int32) = 6 by decide)) ?_
          refine z_put (v := .int 6) (ty := .int) (ws2 := moW cI q z (cpH (shI hi 852) z 5 142) tx pa ke (upd (upd mr 0 5) 0 6) hs wr) hx hb hts inTX6 tyX6 tyX6_ok nmX6 hown hK hP hD hS (0) (mo_0) rfl 1 (by decide) (hts _ qf_X6_29) (fun _ h9 => h9) rfl (by decide +kernel) (rfl) (rfl) (Nat.le_of_ble_eq_true rfl) dX6_save_95 (mo_w0 _ mfl_s0) (fun H locs hP hD hS => ?_)
          exact z_vret hx hb hr hlocks hP hD hK hS (rfl) (rfl) dX6_save_98
        | succ n54 ih54 =>
          intro i h_i H locs hP hD hS ls hl
          have li : i < 142 := by omega
          refine lv_iload_n hx hb dX6_save_54 rfl (lv_at hl 1 rfl) ?_
          refine lv_sipush (v := 142) hx hb dX6_save_55 (by decide) ?_
          refine lv_icmp_ge (tgt := 88) hx hb dX6_save_58 (by decide) (fun c4 => absurd c4 (nI_ge (a := i) (b := 142) (by omega) (by omega))) (fun c4 => ?_)
          have c4 := z_lt c4
          refine lv_aload_n hx hb dX6_save_61 rfl (lv_at hl 0 rfl) ?_
          refine va_get (v := .ref (q 2)) hx hb hts inTX6 hown hK hP (0) (mo_0) rfl 2 (by decide) (hts _ qf_X6_13) (fun _ h9 => h9) (rfl) dX6_save_62 ?_
          refine lv_sipush (v := 142) hx hb dX6_save_65 (by decide) ?_
          refine lv_aload_n hx hb dX6_save_68 rfl (lv_at hl 0 rfl) ?_
          refine va_get (v := .int 5) hx hb hts inTX6 hown hK hP (0) (mo_0) rfl 1 (by decide) (hts _ qf_X6_29) (fun _ h9 => h9) (congrArg (fun x => some (Value.int x)) (upd_eq rfl)) dX6_save_69 ?_
          refine lv_imul hx hb dX6_save_72  ?_
          refine z_top (v2 := .int 710) (congrArg Value.int (show (142 * 5 : Int32) = 710 by decide)) ?_
          refine lv_iload_n hx hb dX6_save_73 rfl (lv_at hl 1 rfl) ?_
          refine lv_iadd hx hb dX6_save_74  ?_
          refine z_top (v2 := .int (nI (710 + i))) (congrArg Value.int (nI_add 710 i)) ?_
          refine lv_aload_n hx hb dX6_save_75 rfl (lv_at hl 0 rfl) ?_
          refine va_get (v := .ref (q 1)) hx hb hts inTX6 hown hK hP (0) (mo_0) rfl 0 (by decide) (hts _ qf_X6_7) (fun _ h9 => h9) (rfl) dX6_save_76 ?_
          refine lv_iload_n hx hb dX6_save_79 rfl (lv_at hl 1 rfl) ?_
          refine va_iald hx hb hK hP (1) 0 (mo_1) rfl (vp_in_nI (show i < 142 by omega) (by omega)) dX6_save_80 ?_
          refine z_top (v2 := .int (z i)) (congrArg Value.int (((congrArg (zfn z) (z_cl (k := i) rfl)).trans (zfn_at (by omega))).trans (rfl))) ?_
          refine z_iast (ws2 := moW cI q z (upd (cpH (shI hi 852) z 5 i) (710 + i) (z i)) tx pa ke (upd mr 0 5) hs wr) hx hb hK hP hD hS (2) 0 (mo_2) rfl (vp_in_nI (show 710 + i < 852 by omega) (by omega)) dX6_save_81 (mo_wa2 (z_cl (k := (710 + i)) rfl)) (fun H locs hP hD hS => ?_)
          refine lv_iinc (v := nI (i + 1)) (lv' := [(1, .int (nI (i + 1))), (0, .ref (q 0))]) hx hb dX6_save_82 hl (k := 1) rfl (nI_1 _) (by decide) rfl (fun ls hl => ?_)
          refine lv_goto (tgt := 54) hx hb dX6_save_85 (by decide) ?_
          have hP := va_P_eq (w2 := moW cI q z (cpH (shI hi 852) z 5 (i + 1)) tx pa ke (upd mr 0 5) hs wr) (congrArg (fun h_ => moW cI q z h_ tx pa ke (upd mr 0 5) hs wr) (cpH_s (s := 5))) hP
          have hD := va_D_eq (w2 := moW cI q z (cpH (shI hi 852) z 5 (i + 1)) tx pa ke (upd mr 0 5) hs wr) (congrArg (fun h_ => moW cI q z h_ tx pa ke (upd mr 0 5) hs wr) (cpH_s (s := 5))) hD
          exact ih54 (i + 1) (by omega) _ _ hP hD hS ls (lv_sub hl [1, 0] rfl)
      have hl := (congrArg (fun qv_ => lv_has ls 2 [(1, qv_), (0, .ref (q 0))]) (show Value.int 0 = .int (nI 0) from congrArg Value.int (rfl))).mp hl
      have hP := va_P_eq (w2 := moW cI q z (cpH (shI hi 852) z 5 0) tx pa ke (upd mr 0 5) hs wr) (congrArg (fun h_ => moW cI q z h_ tx pa ke (upd mr 0 5) hs wr) (cpH_0.symm)) hP
      have hD := va_D_eq (w2 := moW cI q z (cpH (shI hi 852) z 5 0) tx pa ke (upd mr 0 5) hs wr) (congrArg (fun h_ => moW cI q z h_ tx pa ke (upd mr 0 5) hs wr) (cpH_0.symm)) hD
      exact K54 142 0 (by omega) _ _ hP hD hS ls (lv_sub hl [1, 0] rfl)
    | succ n13 ih13 =>
      intro i h_i hinv13 H locs hP hD hS ls hl
      have li : i < 852 := by omega
      refine lv_iload_n hx hb dX6_save_13 rfl (lv_at hl 1 rfl) ?_
      refine lv_sipush (v := 852) hx hb dX6_save_14 (by decide) ?_
      refine lv_icmp_ge (tgt := 42) hx hb dX6_save_17 (by decide) (fun c5 => absurd c5 (nI_ge (a := i) (b := 852) (by omega) (by omega))) (fun c5 => ?_)
      have c5 := z_lt c5
      refine lv_aload_n hx hb dX6_save_20 rfl (lv_at hl 0 rfl) ?_
      refine va_get (v := .ref (q 2)) hx hb hts inTX6 hown hK hP (0) (mo_0) rfl 2 (by decide) (hts _ qf_X6_13) (fun _ h9 => h9) (rfl) dX6_save_21 ?_
      refine lv_iload_n hx hb dX6_save_24 rfl (lv_at hl 1 rfl) ?_
      refine lv_sipush (v := 142) hx hb dX6_save_25 (by decide) ?_
      refine lv_isub hx hb dX6_save_28  ?_
      refine z_top (v2 := .int (nI (i - 142))) (congrArg Value.int (pk_sub (a := i) (b := 142) (by omega))) ?_
      refine lv_aload_n hx hb dX6_save_29 rfl (lv_at hl 0 rfl) ?_
      refine va_get (v := .ref (q 2)) hx hb hts inTX6 hown hK hP (0) (mo_0) rfl 2 (by decide) (hts _ qf_X6_13) (fun _ h9 => h9) (rfl) dX6_save_30 ?_
      refine lv_iload_n hx hb dX6_save_33 rfl (lv_at hl 1 rfl) ?_
      refine va_iald hx hb hK hP (2) 0 (mo_2) rfl (vp_in_nI (show i < 852 by omega) (by omega)) dX6_save_34 ?_
      refine z_top (v2 := .int ((shI hi i) i)) (congrArg Value.int (congrArg (shI hi i) (z_cl (k := i) rfl))) ?_
      refine z_iast (ws2 := moW cI q z (upd (shI hi i) (i - 142) ((shI hi i) i)) tx pa ke mr hs wr) hx hb hK hP hD hS (2) 0 (mo_2) rfl (vp_in_nI (show i - 142 < 852 by omega) (by omega)) dX6_save_35 (mo_wa2 (z_cl (k := (i - 142)) rfl)) (fun H locs hP hD hS => ?_)
      refine lv_iinc (v := nI (i + 1)) (lv' := [(1, .int (nI (i + 1))), (0, .ref (q 0))]) hx hb dX6_save_36 hl (k := 1) rfl (nI_1 _) (by decide) rfl (fun ls hl => ?_)
      refine lv_goto (tgt := 13) hx hb dX6_save_39 (by decide) ?_
      have hP := va_P_eq (w2 := moW cI q z (shI hi (i + 1)) tx pa ke mr hs wr) (congrArg (fun h_ => moW cI q z h_ tx pa ke mr hs wr) (shI_s hinv13)) hP
      have hD := va_D_eq (w2 := moW cI q z (shI hi (i + 1)) tx pa ke mr hs wr) (congrArg (fun h_ => moW cI q z h_ tx pa ke mr hs wr) (shI_s hinv13)) hD
      exact ih13 (i + 1) (by omega) (by omega) _ _ hP hD hS ls (lv_sub hl [1, 0] rfl)
  have hl := (congrArg (fun qv_ => lv_has ls 2 [(1, qv_), (0, .ref (q 0))]) (show Value.int 142 = .int (nI 142) from congrArg Value.int (rfl))).mp hl
  have hP := va_P_eq (w2 := moW cI q z (shI hi 142) tx pa ke mr hs wr) (congrArg (fun h_ => moW cI q z h_ tx pa ke mr hs wr) (shI_0.symm)) hP
  have hD := va_D_eq (w2 := moW cI q z (shI hi 142) tx pa ke mr hs wr) (congrArg (fun h_ => moW cI q z h_ tx pa ke mr hs wr) (shI_0.symm)) hD
  exact K13 (852 - 142) 142 (by omega) (by omega) _ _ hP hD hS ls (lv_sub hl [1, 0] rfl)
theorem c_X6_save {u : Nat} (hu : u ≤ 6) (hm : mr 0 = nI u) : zM l D (zT cI cC cM cB cJ) yX6_save cX6_save 2 none ({ frames := 0, cells := 0, slots := 0, locals := 0 } : Room) [.ref (q 0)] (moW cI q z hi tx pa ke mr hs wr) (moW cI q z (svH hi z u) tx pa ke (upd mr 0 (nI (min (u + 1) 6))) hs wr) none 0 0 := by
  rcases Nat.lt_or_ge u 6 with h | h
  · rw [show svH hi z u = cpH hi z u 142 from if_neg (by omega), show min (u + 1) 6 = u + 1 by omega]
    exact c_X6_save_a h hm
  · have e : u = 6 := by omega
    subst e
    have h2 := c_X6_save_b (l := l) (D := D) (cI := cI) (cC := cC) (cM := cM) (cB := cB) (cJ := cJ) (q := q) (z := z) (hi := hi) (tx := tx) (pa := pa) (ke := ke) (hs := hs) (wr := wr) hm
    rw [upd_upd] at h2
    rw [show svH hi z 6 = cpH (shI hi 852) z 5 142 from if_pos rfl]
    exact h2
set_option maxHeartbeats 4000000 in
set_option maxRecDepth 100000 in
theorem c_X6_greatest (j : Nat) (hj : j < 5) : zM l D (zT cI cC cM cB cJ) yX6_greatest cX6_greatest 1 (some .int) ({ frames := 0, cells := 0, slots := 0, locals := 0 } : Room) [.int (nI j)] (wr) (wr) (some (.int (gsA j))) 0 0 := by
  refine z_enter (by decide) (Nat.le_of_ble_eq_true rfl) ?_
  intro p e s m below meth c A S hr hlocks hnm hN hA hK hP hD hS ls hl
  obtain ⟨hx, hb, hml, hown, hts⟩ := id S
  have hl : lv_has ls 1 [(0, .int (nI j))] := hl
  have hP : va_P D vwCl (wr) s.heap := hP
  have hD : va_D A (wr) := hD
  refine lv_iload_n hx hb dX6_greatest_0 rfl (lv_at hl 0 rfl) ?_
  rcases z_cases3 (nI j) with c1 | c1 | c1 | c1 | c1
  · refine lv_tableIn (tgt := 32) (off := 31) hx hb dX6_greatest_1 (by rw [c1]; decide) (by rw [c1]; decide) (by rw [c1]; decide) (by decide) ?_
    refine lv_sipush (v := 9999) hx hb dX6_greatest_32 (by decide) ?_
    exact z_iret hx hb hr hlocks hP hD hK hS (rfl) (congrArg (fun b_ => some (Value.int b_)) ((show (9999 : Int32) = gsI (nI j) by rw [c1]; decide).trans (gsI_at hj))) dX6_greatest_35
  · refine lv_tableIn (tgt := 36) (off := 35) hx hb dX6_greatest_1 (by rw [c1]; decide) (by rw [c1]; decide) (by rw [c1]; decide) (by decide) ?_
    refine lv_sipush (v := 999) hx hb dX6_greatest_36 (by decide) ?_
    exact z_iret hx hb hr hlocks hP hD hK hS (rfl) (congrArg (fun b_ => some (Value.int b_)) ((show (999 : Int32) = gsI (nI j) by rw [c1]; decide).trans (gsI_at hj))) dX6_greatest_39
  · refine lv_tableIn (tgt := 40) (off := 39) hx hb dX6_greatest_1 (by rw [c1]; decide) (by rw [c1]; decide) (by rw [c1]; decide) (by decide) ?_
    refine lv_bipush (v := 20) hx hb dX6_greatest_40 (by decide) ?_
    exact z_iret hx hb hr hlocks hP hD hK hS (rfl) (congrArg (fun b_ => some (Value.int b_)) ((show (20 : Int32) = gsI (nI j) by rw [c1]; decide).trans (gsI_at hj))) dX6_greatest_42
  · refine lv_tableIn (tgt := 43) (off := 42) hx hb dX6_greatest_1 (by rw [c1]; decide) (by rw [c1]; decide) (by rw [c1]; decide) (by decide) ?_
    refine lv_bipush (v := 100) hx hb dX6_greatest_43 (by decide) ?_
    exact z_iret hx hb hr hlocks hP hD hK hS (rfl) (congrArg (fun b_ => some (Value.int b_)) ((show (100 : Int32) = gsI (nI j) by rw [c1]; decide).trans (gsI_at hj))) dX6_greatest_45
  · refine lv_tableOut (tgt := 46) hx hb dX6_greatest_1 c1 (by decide) ?_
    refine lv_sipush (v := 300) hx hb dX6_greatest_46 (by decide) ?_
    exact z_iret hx hb hr hlocks hP hD hK hS (rfl) (congrArg (fun b_ => some (Value.int b_)) ((show (300 : Int32) = gsI (nI j) by obtain ⟨a1, a2, a3, a4⟩ := z_out3 c1; unfold gsI; rw [if_neg a1, if_neg a2, if_neg a3, if_neg a4]).trans (gsI_at hj))) dX6_greatest_49
set_option maxHeartbeats 4000000 in
set_option maxRecDepth 100000 in
theorem c_X6_canMove (hB : hBool z) (j : Nat) (hj : j < 8) (mn : Int32) : zM l D (zT cI cC cM cB cJ) yX6_canMove cX6_canMove 3 (some .boolean) ({ frames := 2, cells := 0, slots := 0, locals := 43 } : Room) [.ref (q 0), .int (nI j), .int mn] (moW cI q z hi tx pa ke mr hs wr) (moW cI q z hi tx pa ke mr hs wr) (some (.int (bI (alwM z j mn)))) 0 0 := by
  refine z_enter (by decide) (Nat.le_of_ble_eq_true rfl) ?_
  intro p e s m below meth c A S hr hlocks hnm hN hA hK hP hD hS ls hl
  obtain ⟨hx, hb, hml, hown, hts⟩ := id S
  have hl : lv_has ls 3 [(0, .ref (q 0)), (1, .int (nI j)), (2, .int mn)] := hl
  have hP : va_P D vwCl (moW cI q z hi tx pa ke mr hs wr) s.heap := hP
  have hD : va_D A (moW cI q z hi tx pa ke mr hs wr) := hD
  refine lv_aload_n hx hb dX6_canMove_0 rfl (lv_at hl 0 rfl) ?_
  refine lv_iload_n hx hb dX6_canMove_1 rfl (lv_at hl 1 rfl) ?_
  refine z_callV1 (rest := []) S (c_X6_isThere j (show j < 8 by omega) (hB j (show j < 8 by omega)).1) qm_X6_68 v_X6_isThere ⟨Nat.le_of_ble_eq_true rfl, Nat.le_of_ble_eq_true rfl⟩ rfl rfl hN hK hP hD hS hA (0) (mo_0) rfl rfl hl.1 rfl (Nat.le_of_ble_eq_true rfl) dX6_canMove_2 ⟨Nat.le_of_ble_eq_true rfl, Nat.le_of_ble_eq_true rfl⟩ (fun H locs hP hD hS => ?_)
  refine lv_if_eq (tgt := 34) hx hb dX6_canMove_5 (by decide) (fun c1 => ?_) (fun c1 => ?_)
  · have c1 := bI_0n c1
    refine lv_iconst (v := 0) hx hb dX6_canMove_34 (by decide) ?_
    exact z_zret hx hb hr hlocks hP hD hK hS (rfl) (by first | rfl | (simp only [bI, alwM, minP, maxP, c1, not_true_eq_false, not_false_eq_true, and_self, and_true, true_and, and_false, false_and, or_true, true_or, or_false, false_or, if_true, if_false, ite_true, ite_false]; done) | (simp [bI, alwM, minP, maxP, c1]; done) | (simp_all [bI, alwM, minP, maxP]; done)) rfl dX6_canMove_35
  · have c1 := bI_1 c1
    refine lv_aload_n hx hb dX6_canMove_8 rfl (lv_at hl 0 rfl) ?_
    refine va_get (v := .ref (q 1)) hx hb hts inTX6 hown hK hP (0) (mo_0) rfl 0 (by decide) (hts _ qf_X6_7) (fun _ h9 => h9) (rfl) dX6_canMove_9 ?_
    refine lv_bipush (v := 10) hx hb dX6_canMove_12 (by decide) ?_
    refine va_iald hx hb hK hP (1) 0 (mo_1) rfl (vp_in_nI (show 10 < 142 by decide) (by omega)) dX6_canMove_14 ?_
    refine z_top (v2 := .int (z 10)) (congrArg Value.int (((congrArg (zfn z) (z_cl (k := 10) rfl)).trans (zfn_at (by omega))).trans (rfl))) ?_
    refine lv_iconst (v := (-1)) hx hb dX6_canMove_15 (by decide) ?_
    refine lv_icmp_ne (tgt := 34) hx hb dX6_canMove_16 (by decide) (fun c2 => ?_) (fun c2 => ?_)
    · skip
      refine lv_iconst (v := 0) hx hb dX6_canMove_34 (by decide) ?_
      exact z_zret hx hb hr hlocks hP hD hK hS (rfl) (by first | rfl | (simp only [bI, alwM, minP, maxP, c1, c2, not_true_eq_false, not_false_eq_true, and_self, and_true, true_and, and_false, false_and, or_true, true_or, or_false, false_or, if_true, if_false, ite_true, ite_false]; done) | (simp [bI, alwM, minP, maxP, c1, c2]; done) | (simp_all [bI, alwM, minP, maxP]; done)) rfl dX6_canMove_35
    · skip
      refine lv_aload_n hx hb dX6_canMove_19 rfl (lv_at hl 0 rfl) ?_
      refine lv_iload_n hx hb dX6_canMove_20 rfl (lv_at hl 1 rfl) ?_
      refine lv_iconst (v := 1) hx hb dX6_canMove_21 (by decide) ?_
      refine z_callV1 (rest := []) S (c_X6_of j 1 (14 + 16 * j + 1) (show j < 8 by omega) (show 1 < 16 by decide) (by omega) (z (14 + 16 * j + 1)) (rfl)) qm_X6_36 v_X6_of ⟨Nat.le_of_ble_eq_true rfl, Nat.le_of_ble_eq_true rfl⟩ rfl rfl hN hK hP hD hS hA (0) (mo_0) rfl rfl hl.1 rfl (Nat.le_of_ble_eq_true rfl) dX6_canMove_22 ⟨Nat.le_of_ble_eq_true rfl, Nat.le_of_ble_eq_true rfl⟩ (fun H locs hP hD hS => ?_)
      refine lv_ineg hx hb dX6_canMove_25 ?_
      refine lv_iload_n hx hb dX6_canMove_26 rfl (lv_at hl 2 rfl) ?_
      refine lv_icmp_lt (tgt := 34) hx hb dX6_canMove_27 (by decide) (fun c3 => ?_) (fun c3 => ?_)
      · skip
        refine lv_iconst (v := 0) hx hb dX6_canMove_34 (by decide) ?_
        exact z_zret hx hb hr hlocks hP hD hK hS (rfl) (by first | rfl | (simp only [bI, alwM, minP, maxP, c1, c2, c3, not_true_eq_false, not_false_eq_true, and_self, and_true, true_and, and_false, false_and, or_true, true_or, or_false, false_or, if_true, if_false, ite_true, ite_false]; done) | (simp [bI, alwM, minP, maxP, c1, c2, c3]; done) | (simp_all [bI, alwM, minP, maxP]; done)) rfl dX6_canMove_35
      · skip
        refine lv_iconst (v := 1) hx hb dX6_canMove_30 (by decide) ?_
        refine lv_goto (tgt := 35) hx hb dX6_canMove_31 (by decide) ?_
        exact z_zret hx hb hr hlocks hP hD hK hS (rfl) (by first | rfl | (simp only [bI, alwM, minP, maxP, c1, c2, c3, not_true_eq_false, not_false_eq_true, and_self, and_true, true_and, and_false, false_and, or_true, true_or, or_false, false_or, if_true, if_false, ite_true, ite_false]; done) | (simp [bI, alwM, minP, maxP, c1, c2, c3]; done) | (simp_all [bI, alwM, minP, maxP]; done)) rfl dX6_canMove_35
set_option maxHeartbeats 4000000 in
set_option maxRecDepth 100000 in
theorem c_X6_canVote (hB : hBool z) (hV : hVote z) (j : Nat) (hj : j < 8) : zM l D (zT cI cC cM cB cJ) yX6_canVote cX6_canVote 2 (some .boolean) ({ frames := 2, cells := 0, slots := 0, locals := 43 } : Room) [.ref (q 0), .int (nI j)] (moW cI q z hi tx pa ke mr hs wr) (moW cI q z hi tx pa ke mr hs wr) (some (.int (bI (cvP z j)))) 0 0 := by
  have hvj := hV j hj
  refine z_enter (by decide) (Nat.le_of_ble_eq_true rfl) ?_
  intro p e s m below meth c A S hr hlocks hnm hN hA hK hP hD hS ls hl
  obtain ⟨hx, hb, hml, hown, hts⟩ := id S
  have hl : lv_has ls 2 [(0, .ref (q 0)), (1, .int (nI j))] := hl
  have hP : va_P D vwCl (moW cI q z hi tx pa ke mr hs wr) s.heap := hP
  have hD : va_D A (moW cI q z hi tx pa ke mr hs wr) := hD
  refine lv_aload_n hx hb dX6_canVote_0 rfl (lv_at hl 0 rfl) ?_
  refine va_get (v := .ref (q 1)) hx hb hts inTX6 hown hK hP (0) (mo_0) rfl 0 (by decide) (hts _ qf_X6_7) (fun _ h9 => h9) (rfl) dX6_canVote_1 ?_
  refine lv_bipush (v := 10) hx hb dX6_canVote_4 (by decide) ?_
  refine va_iald hx hb hK hP (1) 0 (mo_1) rfl (vp_in_nI (show 10 < 142 by decide) (by omega)) dX6_canVote_6 ?_
  refine z_top (v2 := .int (z 10)) (congrArg Value.int (((congrArg (zfn z) (z_cl (k := 10) rfl)).trans (zfn_at (by omega))).trans (rfl))) ?_
  refine lv_iconst (v := (-1)) hx hb dX6_canVote_7 (by decide) ?_
  refine lv_icmp_eq (tgt := 56) hx hb dX6_canVote_8 (by decide) (fun c1 => ?_) (fun c1 => ?_)
  · skip
    refine lv_iconst (v := 0) hx hb dX6_canVote_56 (by decide) ?_
    exact z_zret hx hb hr hlocks hP hD hK hS (rfl) (congrArg (fun b_ => some (Value.int b_)) ((bI_f (fun q => q.1 c1)).symm)) rfl dX6_canVote_57
  · skip
    refine lv_aload_n hx hb dX6_canVote_11 rfl (lv_at hl 0 rfl) ?_
    refine va_get (v := .ref (q 1)) hx hb hts inTX6 hown hK hP (0) (mo_0) rfl 0 (by decide) (hts _ qf_X6_7) (fun _ h9 => h9) (rfl) dX6_canVote_12 ?_
    refine lv_bipush (v := 10) hx hb dX6_canVote_15 (by decide) ?_
    refine va_iald hx hb hK hP (1) 0 (mo_1) rfl (vp_in_nI (show 10 < 142 by decide) (by omega)) dX6_canVote_17 ?_
    refine z_top (v2 := .int (z 10)) (congrArg Value.int (((congrArg (zfn z) (z_cl (k := 10) rfl)).trans (zfn_at (by omega))).trans (rfl))) ?_
    refine lv_iload_n hx hb dX6_canVote_18 rfl (lv_at hl 1 rfl) ?_
    refine lv_icmp_eq (tgt := 56) hx hb dX6_canVote_19 (by decide) (fun c2 => ?_) (fun c2 => ?_)
    · skip
      refine lv_iconst (v := 0) hx hb dX6_canVote_56 (by decide) ?_
      exact z_zret hx hb hr hlocks hP hD hK hS (rfl) (congrArg (fun b_ => some (Value.int b_)) ((bI_f (fun q => q.2.1 c2.symm)).symm)) rfl dX6_canVote_57
    · skip
      refine lv_aload_n hx hb dX6_canVote_22 rfl (lv_at hl 0 rfl) ?_
      refine lv_iload_n hx hb dX6_canVote_23 rfl (lv_at hl 1 rfl) ?_
      refine z_callV1 (rest := []) S (c_X6_isThere j (show j < 8 by omega) (hB j (show j < 8 by omega)).1) qm_X6_68 v_X6_isThere ⟨Nat.le_of_ble_eq_true rfl, Nat.le_of_ble_eq_true rfl⟩ rfl rfl hN hK hP hD hS hA (0) (mo_0) rfl rfl hl.1 rfl (Nat.le_of_ble_eq_true rfl) dX6_canVote_24 ⟨Nat.le_of_ble_eq_true rfl, Nat.le_of_ble_eq_true rfl⟩ (fun H locs hP hD hS => ?_)
      refine lv_if_eq (tgt := 56) hx hb dX6_canVote_27 (by decide) (fun c3 => ?_) (fun c3 => ?_)
      · have c3 := bI_0n c3
        refine lv_iconst (v := 0) hx hb dX6_canVote_56 (by decide) ?_
        exact z_zret hx hb hr hlocks hP hD hK hS (rfl) (congrArg (fun b_ => some (Value.int b_)) ((bI_f (fun q => q.2.2.1 c3)).symm)) rfl dX6_canVote_57
      · have c3 := bI_1 c3
        refine lv_aload_n hx hb dX6_canVote_30 rfl (lv_at hl 0 rfl) ?_
        refine va_get (v := .ref (q 1)) hx hb hts inTX6 hown hK hP (0) (mo_0) rfl 0 (by decide) (hts _ qf_X6_7) (fun _ h9 => h9) (rfl) dX6_canVote_31 ?_
        refine lv_bipush (v := 12) hx hb dX6_canVote_34 (by decide) ?_
        refine va_iald hx hb hK hP (1) 0 (mo_1) rfl (vp_in_nI (show 12 < 142 by decide) (by omega)) dX6_canVote_36 ?_
        refine z_top (v2 := .int (z 12)) (congrArg Value.int (((congrArg (zfn z) (z_cl (k := 12) rfl)).trans (zfn_at (by omega))).trans (rfl))) ?_
        refine lv_aload_n hx hb dX6_canVote_37 rfl (lv_at hl 0 rfl) ?_
        refine va_get (v := .ref (q 1)) hx hb hts inTX6 hown hK hP (0) (mo_0) rfl 0 (by decide) (hts _ qf_X6_7) (fun _ h9 => h9) (rfl) dX6_canVote_38 ?_
        refine lv_bipush (v := 13) hx hb dX6_canVote_41 (by decide) ?_
        refine va_iald hx hb hK hP (1) 0 (mo_1) rfl (vp_in_nI (show 13 < 142 by decide) (by omega)) dX6_canVote_43 ?_
        refine z_top (v2 := .int (z 13)) (congrArg Value.int (((congrArg (zfn z) (z_cl (k := 13) rfl)).trans (zfn_at (by omega))).trans (rfl))) ?_
        refine lv_ior hx hb dX6_canVote_44  ?_
        refine lv_iload_n hx hb dX6_canVote_45 rfl (lv_at hl 1 rfl) ?_
        refine z_callS1 (rest := []) S (c_X6_has ((z 12) ||| (z 13)) (nI j)) qm_X6_114 t_X6_has ⟨Nat.le_of_ble_eq_true rfl, Nat.le_of_ble_eq_true rfl⟩ rfl rfl hN hK hP hD hS hA rfl hl.1 rfl (Nat.le_of_ble_eq_true rfl) dX6_canVote_46 ⟨Nat.le_of_ble_eq_true rfl, Nat.le_of_ble_eq_true rfl⟩ (fun H locs hP hD hS => ?_)
        refine lv_if_ne (tgt := 56) hx hb dX6_canVote_49 (by decide) (fun c4 => ?_) (fun c4 => ?_)
        · have c4 := bI_1 c4
          refine lv_iconst (v := 0) hx hb dX6_canVote_56 (by decide) ?_
          exact z_zret hx hb hr hlocks hP hD hK hS (rfl) (congrArg (fun b_ => some (Value.int b_)) ((bI_f (fun q => hvj.mp c4 q.2.2.2)).symm)) rfl dX6_canVote_57
        · have c4 := bI_0 c4
          refine lv_iconst (v := 1) hx hb dX6_canVote_52 (by decide) ?_
          refine lv_goto (tgt := 57) hx hb dX6_canVote_53 (by decide) ?_
          exact z_zret hx hb hr hlocks hP hD hK hS (rfl) (congrArg (fun b_ => some (Value.int b_)) ((bI_t ⟨c1, fun q => c2 q.symm, c3, Classical.not_not.mp (fun q => c4 (hvj.mpr q))⟩).symm)) rfl dX6_canVote_57
set_option maxHeartbeats 4000000 in
set_option maxRecDepth 100000 in
theorem c_X6_memberNow (hB : hBool z) (hV : hVote z) (j w : Nat) (hj : j < 8) (hw : w < 12) : zM l D (zT cI cC cM cB cJ) yX6_memberNow cX6_memberNow 3 (some .int) ({ frames := 3, cells := 0, slots := 0, locals := 64 } : Room) [.ref (q 0), .int (nI j), .int (nI w)] (moW cI q z hi tx pa ke mr hs wr) (moW cI q z hi tx pa ke mr hs wr) (some (.int (prpP z j (nI w)))) 0 0 := by
  refine z_enter (by decide) (Nat.le_of_ble_eq_true rfl) ?_
  intro p e s m below meth c A S hr hlocks hnm hN hA hK hP hD hS ls hl
  obtain ⟨hx, hb, hml, hown, hts⟩ := id S
  have hl : lv_has ls 3 [(0, .ref (q 0)), (1, .int (nI j)), (2, .int (nI w))] := hl
  have hP : va_P D vwCl (moW cI q z hi tx pa ke mr hs wr) s.heap := hP
  have hD : va_D A (moW cI q z hi tx pa ke mr hs wr) := hD
  refine lv_iload_n hx hb dX6_memberNow_0 rfl (lv_at hl 2 rfl) ?_
  refine lv_bipush (v := 11) hx hb dX6_memberNow_1 (by decide) ?_
  refine lv_icmp_ge (tgt := 15) hx hb dX6_memberNow_3 (by decide) (fun c1 => ?_) (fun c1 => ?_)
  · have c1 := z_nlt c1
    refine lv_aload_n hx hb dX6_memberNow_15 rfl (lv_at hl 0 rfl) ?_
    refine lv_iload_n hx hb dX6_memberNow_16 rfl (lv_at hl 1 rfl) ?_
    refine z_callV1 (rest := []) S (c_X6_canVote (hB) hV j (show j < 8 by omega)) qm_X6_117 v_X6_canVote ⟨Nat.le_of_ble_eq_true rfl, Nat.le_of_ble_eq_true rfl⟩ rfl rfl hN hK hP hD hS hA (0) (mo_0) rfl rfl hl.1 rfl (Nat.le_of_ble_eq_true rfl) dX6_memberNow_17 ⟨Nat.le_of_ble_eq_true rfl, Nat.le_of_ble_eq_true rfl⟩ (fun H locs hP hD hS => ?_)
    refine lv_if_eq (tgt := 27) hx hb dX6_memberNow_20 (by decide) (fun c2 => ?_) (fun c2 => ?_)
    · have c2 := bI_0 c2
      refine lv_iconst (v := 0) hx hb dX6_memberNow_27 (by decide) ?_
      exact z_iret hx hb hr hlocks hP hD hK hS (rfl) (congrArg (fun b_ => some (Value.int b_)) ((bI_f c2).symm.trans (mnP_b hw c1))) dX6_memberNow_28
    · have c2 := bI_1 c2
      refine lv_iconst (v := 1) hx hb dX6_memberNow_23 (by decide) ?_
      refine lv_goto (tgt := 28) hx hb dX6_memberNow_24 (by decide) ?_
      exact z_iret hx hb hr hlocks hP hD hK hS (rfl) (congrArg (fun b_ => some (Value.int b_)) ((bI_t c2).symm.trans (mnP_b hw c1))) dX6_memberNow_28
  · have c1 := z_lt c1
    refine lv_aload_n hx hb dX6_memberNow_6 rfl (lv_at hl 0 rfl) ?_
    refine lv_iload_n hx hb dX6_memberNow_7 rfl (lv_at hl 1 rfl) ?_
    refine lv_iload_n hx hb dX6_memberNow_8 rfl (lv_at hl 2 rfl) ?_
    refine z_callV1 (rest := []) S (c_X6_of j w (14 + 16 * j + w) (show j < 8 by omega) (show w < 16 by omega) (by omega) (z (14 + 16 * j + w)) (rfl)) qm_X6_36 v_X6_of ⟨Nat.le_of_ble_eq_true rfl, Nat.le_of_ble_eq_true rfl⟩ rfl rfl hN hK hP hD hS hA (0) (mo_0) rfl rfl hl.1 rfl (Nat.le_of_ble_eq_true rfl) dX6_memberNow_9 ⟨Nat.le_of_ble_eq_true rfl, Nat.le_of_ble_eq_true rfl⟩ (fun H locs hP hD hS => ?_)
    refine lv_goto (tgt := 28) hx hb dX6_memberNow_12 (by decide) ?_
    exact z_iret hx hb hr hlocks hP hD hK hS (rfl) (congrArg (fun b_ => some (Value.int b_)) (mnP_a hB hj hw c1)) dX6_memberNow_28
set_option maxHeartbeats 4000000 in
set_option maxRecDepth 100000 in
theorem c_X6_skillNow (j k : Nat) (hj : j < 8) (hk : k < 5) (x : Int32) : zM l D (zT cI cC cM cB cJ) yX6_skillNow cX6_skillNow 4 (some .int) ({ frames := 2, cells := 0, slots := 0, locals := 45 } : Room) [.ref (q 0), .int (nI j), .int (nI k), .int x] (moW cI q z hi tx pa ke mr hs wr) (moW cI q z hi tx pa ke mr hs wr) (some (.int (if x = 0 then z (25 + 16 * j + k) else ripeP (z (25 + 16 * j + k))))) 0 0 := by
  refine z_enter (by decide) (Nat.le_of_ble_eq_true rfl) ?_
  intro p e s m below meth c A S hr hlocks hnm hN hA hK hP hD hS ls hl
  obtain ⟨hx, hb, hml, hown, hts⟩ := id S
  have hl : lv_has ls 4 [(0, .ref (q 0)), (1, .int (nI j)), (2, .int (nI k)), (3, .int x)] := hl
  have hP : va_P D vwCl (moW cI q z hi tx pa ke mr hs wr) s.heap := hP
  have hD : va_D A (moW cI q z hi tx pa ke mr hs wr) := hD
  refine lv_iload_n hx hb dX6_skillNow_0 rfl (lv_at hl 3 rfl) ?_
  refine lv_if_ne (tgt := 16) hx hb dX6_skillNow_1 (by decide) (fun c1 => ?_) (fun c1 => ?_)
  · skip
    refine lv_aload_n hx hb dX6_skillNow_16 rfl (lv_at hl 0 rfl) ?_
    refine lv_iload_n hx hb dX6_skillNow_17 rfl (lv_at hl 1 rfl) ?_
    refine lv_iload_n hx hb dX6_skillNow_18 rfl (lv_at hl 2 rfl) ?_
    refine z_callV1 (rest := []) S (c_X6_ripenessOf j k (show j < 8 by omega) (show k < 5 by omega)) qm_X6_74 v_X6_ripenessOf ⟨Nat.le_of_ble_eq_true rfl, Nat.le_of_ble_eq_true rfl⟩ rfl rfl hN hK hP hD hS hA (0) (mo_0) rfl rfl hl.1 rfl (Nat.le_of_ble_eq_true rfl) dX6_skillNow_19 ⟨Nat.le_of_ble_eq_true rfl, Nat.le_of_ble_eq_true rfl⟩ (fun H locs hP hD hS => ?_)
    exact z_iret hx hb hr hlocks hP hD hK hS (rfl) (congrArg (fun b_ => some (Value.int b_)) ((if_neg c1).symm)) dX6_skillNow_22
  · skip
    refine lv_aload_n hx hb dX6_skillNow_4 rfl (lv_at hl 0 rfl) ?_
    refine lv_iload_n hx hb dX6_skillNow_5 rfl (lv_at hl 1 rfl) ?_
    refine lv_bipush (v := 11) hx hb dX6_skillNow_6 (by decide) ?_
    refine lv_iload_n hx hb dX6_skillNow_8 rfl (lv_at hl 2 rfl) ?_
    refine lv_iadd hx hb dX6_skillNow_9  ?_
    refine z_top (v2 := .int (nI (11 + k))) (congrArg Value.int (nI_add 11 k)) ?_
    refine z_callV1 (rest := []) S (c_X6_of j (11 + k) (25 + 16 * j + k) (show j < 8 by omega) (show 11 + k < 16 by omega) (by omega) (z (25 + 16 * j + k)) (rfl)) qm_X6_36 v_X6_of ⟨Nat.le_of_ble_eq_true rfl, Nat.le_of_ble_eq_true rfl⟩ rfl rfl hN hK hP hD hS hA (0) (mo_0) rfl rfl hl.1 rfl (Nat.le_of_ble_eq_true rfl) dX6_skillNow_10 ⟨Nat.le_of_ble_eq_true rfl, Nat.le_of_ble_eq_true rfl⟩ (fun H locs hP hD hS => ?_)
    refine lv_goto (tgt := 22) hx hb dX6_skillNow_13 (by decide) ?_
    exact z_iret hx hb hr hlocks hP hD hK hS (rfl) (congrArg (fun b_ => some (Value.int b_)) ((if_pos c1).symm)) dX6_skillNow_22
set_option maxHeartbeats 4000000 in
set_option maxRecDepth 100000 in
theorem c_X6_sumOf {n : Nat} (hn : n ≤ 8) (hz : z 5 = nI n) (w : Nat) (hw : w < 16) : zM l D (zT cI cC cM cB cJ) yX6_sumOf cX6_sumOf 4 (some .int) ({ frames := 1, cells := 0, slots := 0, locals := 22 } : Room) [.ref (q 0), .int (nI w)] (moW cI q z hi tx pa ke mr hs wr) (moW cI q z hi tx pa ke mr hs wr) (some (.int (sumF z w n))) 0 0 := by
  refine z_enter (by decide) (Nat.le_of_ble_eq_true rfl) ?_
  intro p e s m below meth c A S hr hlocks hnm hN hA hK hP hD hS ls hl
  obtain ⟨hx, hb, hml, hown, hts⟩ := id S
  have hl : lv_has ls 4 [(0, .ref (q 0)), (1, .int (nI w))] := hl
  have hP : va_P D vwCl (moW cI q z hi tx pa ke mr hs wr) s.heap := hP
  have hD : va_D A (moW cI q z hi tx pa ke mr hs wr) := hD
  refine lv_iconst (v := 0) hx hb dX6_sumOf_0 (by decide) ?_
  refine lv_istore_n (lv' := [(2, .int 0), (0, .ref (q 0)), (1, .int (nI w))]) hx hb dX6_sumOf_1 rfl hl (by decide) rfl (fun ls hl => ?_)
  refine lv_iconst (v := 0) hx hb dX6_sumOf_2 (by decide) ?_
  refine lv_istore_n (lv' := [(3, .int 0), (2, .int 0), (0, .ref (q 0)), (1, .int (nI w))]) hx hb dX6_sumOf_3 rfl hl (by decide) rfl (fun ls hl => ?_)
  have K4 : ∀ (n4 i : Nat), i + n4 = n → ∀ (H : Heap) (locs : List Loc), va_P D vwCl (moW cI q z hi tx pa ke mr hs wr) H → va_D A (moW cI q z hi tx pa ke mr hs wr) → va_S A s.heap H locs → ∀ ls : Array Slot, lv_has ls 4 [(0, .ref (q 0)), (1, .int (nI w)), (2, .int (sumF z w i)), (3, .int (nI i))] → W p l e ({ frames := 1, cells := 0, slots := 0, locals := 22 } : Room) s m ([.ref (q 0), .int (nI w)] : List Value).toArray below meth c H locs 0 0 (MQ below (zQ D (zT cI cC cM cB cJ) (moW cI q z hi tx pa ke mr hs wr) (some (.int (sumF z w n))) A) ([.ref (q 0), .int (nI w)] : List Value).toArray s 0 0 A) (F0 m 4 ls []) := by
    intro n4
    induction n4 with
    | zero =>
      intro i h_i H locs hP hD hS ls hl
      have ei : n = i := by omega
      subst ei
      refine lv_iload_n hx hb dX6_sumOf_4 rfl (lv_at hl 3 rfl) ?_
      refine lv_aload_n hx hb dX6_sumOf_5 rfl (lv_at hl 0 rfl) ?_
      refine va_get (v := .ref (q 1)) hx hb hts inTX6 hown hK hP (0) (mo_0) rfl 0 (by decide) (hts _ qf_X6_7) (fun _ h9 => h9) (rfl) dX6_sumOf_6 ?_
      refine lv_iconst (v := 5) hx hb dX6_sumOf_9 (by decide) ?_
      refine va_iald hx hb hK hP (1) 0 (mo_1) rfl (vp_in_nI (show 5 < 142 by decide) (by omega)) dX6_sumOf_10 ?_
      refine z_top (v2 := .int (nI n)) (congrArg Value.int (((congrArg (zfn z) (z_cl (k := 5) rfl)).trans (zfn_at (by omega))).trans (hz))) ?_
      refine lv_icmp_ge (tgt := 29) hx hb dX6_sumOf_11 (by decide) (fun c1 => ?_) (fun c1 => absurd (nI_le (a := n) (b := n) (by omega) (by omega)) c1)
      have c1 := z_nlt c1
      refine lv_iload_n hx hb dX6_sumOf_29 rfl (lv_at hl 2 rfl) ?_
      exact z_iret hx hb hr hlocks hP hD hK hS (rfl) (by first | rfl | (simp only [minP, maxP, c1, not_true_eq_false, not_false_eq_true, and_self, and_true, true_and, and_false, false_and, or_true, true_or, or_false, false_or, if_true, if_false, ite_true, ite_false]; done) | (simp [minP, maxP, c1]; done) | (simp_all [minP, maxP]; done)) dX6_sumOf_30
    | succ n4 ih4 =>
      intro i h_i H locs hP hD hS ls hl
      have li : i < n := by omega
      refine lv_iload_n hx hb dX6_sumOf_4 rfl (lv_at hl 3 rfl) ?_
      refine lv_aload_n hx hb dX6_sumOf_5 rfl (lv_at hl 0 rfl) ?_
      refine va_get (v := .ref (q 1)) hx hb hts inTX6 hown hK hP (0) (mo_0) rfl 0 (by decide) (hts _ qf_X6_7) (fun _ h9 => h9) (rfl) dX6_sumOf_6 ?_
      refine lv_iconst (v := 5) hx hb dX6_sumOf_9 (by decide) ?_
      refine va_iald hx hb hK hP (1) 0 (mo_1) rfl (vp_in_nI (show 5 < 142 by decide) (by omega)) dX6_sumOf_10 ?_
      refine z_top (v2 := .int (nI n)) (congrArg Value.int (((congrArg (zfn z) (z_cl (k := 5) rfl)).trans (zfn_at (by omega))).trans (hz))) ?_
      refine lv_icmp_ge (tgt := 29) hx hb dX6_sumOf_11 (by decide) (fun c2 => absurd c2 (nI_ge (a := i) (b := n) (by omega) (by omega))) (fun c2 => ?_)
      have c2 := z_lt c2
      refine lv_iload_n hx hb dX6_sumOf_14 rfl (lv_at hl 2 rfl) ?_
      refine lv_aload_n hx hb dX6_sumOf_15 rfl (lv_at hl 0 rfl) ?_
      refine lv_iload_n hx hb dX6_sumOf_16 rfl (lv_at hl 3 rfl) ?_
      refine lv_iload_n hx hb dX6_sumOf_17 rfl (lv_at hl 1 rfl) ?_
      refine z_callV1 (rest := [.int (sumF z w i)]) S (c_X6_of i w (14 + 16 * i + w) (show i < 8 by omega) (show w < 16 by omega) (by omega) (z (14 + 16 * i + w)) (rfl)) qm_X6_36 v_X6_of ⟨Nat.le_of_ble_eq_true rfl, Nat.le_of_ble_eq_true rfl⟩ rfl rfl hN hK hP hD hS hA (0) (mo_0) rfl rfl hl.1 rfl (Nat.le_of_ble_eq_true rfl) dX6_sumOf_18 ⟨Nat.le_of_ble_eq_true rfl, Nat.le_of_ble_eq_true rfl⟩ (fun H locs hP hD hS => ?_)
      refine lv_iadd hx hb dX6_sumOf_21  ?_
      refine lv_istore_n (lv' := [(2, .int ((sumF z w i) + (z (14 + 16 * i + w)))), (0, .ref (q 0)), (1, .int (nI w)), (3, .int (nI i))]) hx hb dX6_sumOf_22 rfl hl (by decide) rfl (fun ls hl => ?_)
      refine lv_iinc (v := nI (i + 1)) (lv' := [(3, .int (nI (i + 1))), (2, .int ((sumF z w i) + (z (14 + 16 * i + w)))), (0, .ref (q 0)), (1, .int (nI w))]) hx hb dX6_sumOf_23 hl (k := 3) rfl (nI_1 _) (by decide) rfl (fun ls hl => ?_)
      refine lv_goto (tgt := 4) hx hb dX6_sumOf_26 (by decide) ?_
      have hl := (congrArg (fun qv_ => lv_has ls 4 [(3, .int (nI (i + 1))), (2, qv_), (0, .ref (q 0)), (1, .int (nI w))]) (show Value.int ((sumF z w i) + (z (14 + 16 * i + w))) = .int (sumF z w (i + 1)) from congrArg Value.int (rfl))).mp hl
      exact ih4 (i + 1) (by omega) _ _ hP hD hS ls (lv_sub hl [2, 3, 1, 0] rfl)
  have hl := (congrArg (fun qv_ => lv_has ls 4 [(3, .int 0), (2, qv_), (0, .ref (q 0)), (1, .int (nI w))]) (show Value.int 0 = .int (sumF z w 0) from congrArg Value.int (rfl))).mp hl
  have hl := (congrArg (fun qv_ => lv_has ls 4 [(3, qv_), (2, .int (sumF z w 0)), (0, .ref (q 0)), (1, .int (nI w))]) (show Value.int 0 = .int (nI 0) from congrArg Value.int (rfl))).mp hl
  exact K4 n 0 (by omega) _ _ hP hD hS ls (lv_sub hl [2, 3, 1, 0] rfl)
set_option maxHeartbeats 4000000 in
set_option maxRecDepth 100000 in
theorem c_X6_sumOfBalances_1 {n : Nat} (hn : n ≤ 8) (hz : z 5 = nI n) : zM l D (zT cI cC cM cB cJ) yX6_sumOfBalances cX6_sumOfBalances 5 (some .int) ({ frames := 1, cells := 0, slots := 0, locals := 22 } : Room) [.ref (q 0), .int 1] (moW cI q z hi tx pa ke mr hs wr) (moW cI q z hi tx pa ke mr hs wr) (some (.int (sumC z n))) 0 0 := by
  refine z_enter (by decide) (Nat.le_of_ble_eq_true rfl) ?_
  intro p e s m below meth c A S hr hlocks hnm hN hA hK hP hD hS ls hl
  obtain ⟨hx, hb, hml, hown, hts⟩ := id S
  have hl : lv_has ls 5 [(0, .ref (q 0)), (1, .int 1)] := hl
  have hP : va_P D vwCl (moW cI q z hi tx pa ke mr hs wr) s.heap := hP
  have hD : va_D A (moW cI q z hi tx pa ke mr hs wr) := hD
  refine lv_iconst (v := 0) hx hb dX6_sumOfBalances_0 (by decide) ?_
  refine lv_istore_n (lv' := [(2, .int 0), (0, .ref (q 0)), (1, .int 1)]) hx hb dX6_sumOfBalances_1 rfl hl (by decide) rfl (fun ls hl => ?_)
  refine lv_iconst (v := 0) hx hb dX6_sumOfBalances_2 (by decide) ?_
  refine lv_istore_n (lv' := [(3, .int 0), (2, .int 0), (0, .ref (q 0)), (1, .int 1)]) hx hb dX6_sumOfBalances_3 rfl hl (by decide) rfl (fun ls hl => ?_)
  have K4 : ∀ (n4 i : Nat), i + n4 = n → ∀ (H : Heap) (locs : List Loc), va_P D vwCl (moW cI q z hi tx pa ke mr hs wr) H → va_D A (moW cI q z hi tx pa ke mr hs wr) → va_S A s.heap H locs → ∀ ls : Array Slot, lv_has ls 5 [(0, .ref (q 0)), (1, .int 1), (2, .int (sumC z i)), (3, .int (nI i))] → W p l e ({ frames := 1, cells := 0, slots := 0, locals := 22 } : Room) s m ([.ref (q 0), .int 1] : List Value).toArray below meth c H locs 0 0 (MQ below (zQ D (zT cI cC cM cB cJ) (moW cI q z hi tx pa ke mr hs wr) (some (.int (sumC z n))) A) ([.ref (q 0), .int 1] : List Value).toArray s 0 0 A) (F0 m 4 ls []) := by
    intro n4
    induction n4 with
    | zero =>
      intro i h_i H locs hP hD hS ls hl
      have ei : n = i := by omega
      subst ei
      refine lv_iload_n hx hb dX6_sumOfBalances_4 rfl (lv_at hl 3 rfl) ?_
      refine lv_aload_n hx hb dX6_sumOfBalances_5 rfl (lv_at hl 0 rfl) ?_
      refine va_get (v := .ref (q 1)) hx hb hts inTX6 hown hK hP (0) (mo_0) rfl 0 (by decide) (hts _ qf_X6_7) (fun _ h9 => h9) (rfl) dX6_sumOfBalances_6 ?_
      refine lv_iconst (v := 5) hx hb dX6_sumOfBalances_9 (by decide) ?_
      refine va_iald hx hb hK hP (1) 0 (mo_1) rfl (vp_in_nI (show 5 < 142 by decide) (by omega)) dX6_sumOfBalances_10 ?_
      refine z_top (v2 := .int (nI n)) (congrArg Value.int (((congrArg (zfn z) (z_cl (k := 5) rfl)).trans (zfn_at (by omega))).trans (hz))) ?_
      refine lv_icmp_ge (tgt := 51) hx hb dX6_sumOfBalances_11 (by decide) (fun c1 => ?_) (fun c1 => absurd (nI_le (a := n) (b := n) (by omega) (by omega)) c1)
      have c1 := z_nlt c1
      refine lv_iload_n hx hb dX6_sumOfBalances_51 rfl (lv_at hl 2 rfl) ?_
      exact z_iret hx hb hr hlocks hP hD hK hS (rfl) (by first | rfl | (simp only [minP, maxP, c1, not_true_eq_false, not_false_eq_true, and_self, and_true, true_and, and_false, false_and, or_true, true_or, or_false, false_or, if_true, if_false, ite_true, ite_false]; done) | (simp [minP, maxP, c1]; done) | (simp_all [minP, maxP]; done)) dX6_sumOfBalances_52
    | succ n4 ih4 =>
      intro i h_i H locs hP hD hS ls hl
      have li : i < n := by omega
      refine lv_iload_n hx hb dX6_sumOfBalances_4 rfl (lv_at hl 3 rfl) ?_
      refine lv_aload_n hx hb dX6_sumOfBalances_5 rfl (lv_at hl 0 rfl) ?_
      refine va_get (v := .ref (q 1)) hx hb hts inTX6 hown hK hP (0) (mo_0) rfl 0 (by decide) (hts _ qf_X6_7) (fun _ h9 => h9) (rfl) dX6_sumOfBalances_6 ?_
      refine lv_iconst (v := 5) hx hb dX6_sumOfBalances_9 (by decide) ?_
      refine va_iald hx hb hK hP (1) 0 (mo_1) rfl (vp_in_nI (show 5 < 142 by decide) (by omega)) dX6_sumOfBalances_10 ?_
      refine z_top (v2 := .int (nI n)) (congrArg Value.int (((congrArg (zfn z) (z_cl (k := 5) rfl)).trans (zfn_at (by omega))).trans (hz))) ?_
      refine lv_icmp_ge (tgt := 51) hx hb dX6_sumOfBalances_11 (by decide) (fun c2 => absurd c2 (nI_ge (a := i) (b := n) (by omega) (by omega))) (fun c2 => ?_)
      have c2 := z_lt c2
      refine lv_aload_n hx hb dX6_sumOfBalances_14 rfl (lv_at hl 0 rfl) ?_
      refine lv_iload_n hx hb dX6_sumOfBalances_15 rfl (lv_at hl 3 rfl) ?_
      refine lv_iconst (v := 1) hx hb dX6_sumOfBalances_16 (by decide) ?_
      refine z_callV1 (rest := []) S (c_X6_of i 1 (14 + 16 * i + 1) (show i < 8 by omega) (show 1 < 16 by decide) (by omega) (z (14 + 16 * i + 1)) (rfl)) qm_X6_36 v_X6_of ⟨Nat.le_of_ble_eq_true rfl, Nat.le_of_ble_eq_true rfl⟩ rfl rfl hN hK hP hD hS hA (0) (mo_0) rfl rfl hl.1 rfl (Nat.le_of_ble_eq_true rfl) dX6_sumOfBalances_17 ⟨Nat.le_of_ble_eq_true rfl, Nat.le_of_ble_eq_true rfl⟩ (fun H locs hP hD hS => ?_)
      refine lv_istore (lv' := [(4, .int (z (14 + 16 * i + 1))), (0, .ref (q 0)), (1, .int 1), (2, .int (sumC z i)), (3, .int (nI i))]) hx hb dX6_sumOfBalances_20 hl (by decide) rfl (fun ls hl => ?_)
      refine lv_iload_n hx hb dX6_sumOfBalances_22 rfl (lv_at hl 3 rfl) ?_
      refine lv_iload hx hb dX6_sumOfBalances_23 (lv_at hl 0 rfl) ?_
      refine lv_if_le (tgt := 32) hx hb dX6_sumOfBalances_25 (by decide) (fun c3 => ?_) (fun c3 => ?_)
      · have c3 := z_nlt c3
        refine lv_iconst (v := 0) hx hb dX6_sumOfBalances_32 (by decide) ?_
        refine lv_iload_n hx hb dX6_sumOfBalances_33 rfl (lv_at hl 2 rfl) ?_
        refine lv_icmp_ne (tgt := 42) hx hb dX6_sumOfBalances_34 (by decide) (fun c4 => ?_) (fun c4 => absurd c4 (by decide))
        refine lv_iconst (v := 0) hx hb dX6_sumOfBalances_42 (by decide) ?_
        refine lv_iadd hx hb dX6_sumOfBalances_43  ?_
        refine lv_istore_n (lv' := [(2, .int ((sumC z i) + 0)), (4, .int (z (14 + 16 * i + 1))), (0, .ref (q 0)), (1, .int 1), (3, .int (nI i))]) hx hb dX6_sumOfBalances_44 rfl hl (by decide) rfl (fun ls hl => ?_)
        refine lv_iinc (v := nI (i + 1)) (lv' := [(3, .int (nI (i + 1))), (2, .int ((sumC z i) + 0)), (4, .int (z (14 + 16 * i + 1))), (0, .ref (q 0)), (1, .int 1)]) hx hb dX6_sumOfBalances_45 hl (k := 4) rfl (nI_1 _) (by decide) rfl (fun ls hl => ?_)
        refine lv_goto (tgt := 4) hx hb dX6_sumOfBalances_48 (by decide) ?_
        have hl := (congrArg (fun qv_ => lv_has ls 5 [(3, .int (nI (i + 1))), (2, qv_), (4, .int (z (14 + 16 * i + 1))), (0, .ref (q 0)), (1, .int 1)]) (show Value.int ((sumC z i) + 0) = .int (sumC z (i + 1)) from congrArg Value.int (congrArg (fun y_ => sumC z i + y_) (maxP_e c3)))).mp hl
        exact ih4 (i + 1) (by omega) _ _ hP hD hS ls (lv_sub hl [3, 4, 1, 0] rfl)
      · have c3 := z_lt c3
        refine lv_iconst (v := 1) hx hb dX6_sumOfBalances_28 (by decide) ?_
        refine lv_goto (tgt := 33) hx hb dX6_sumOfBalances_29 (by decide) ?_
        refine lv_iload_n hx hb dX6_sumOfBalances_33 rfl (lv_at hl 2 rfl) ?_
        refine lv_icmp_ne (tgt := 42) hx hb dX6_sumOfBalances_34 (by decide) (fun c5 => absurd c5 (by decide)) (fun c5 => ?_)
        refine lv_iload hx hb dX6_sumOfBalances_37 (lv_at hl 0 rfl) ?_
        refine lv_goto (tgt := 43) hx hb dX6_sumOfBalances_39 (by decide) ?_
        refine lv_iadd hx hb dX6_sumOfBalances_43  ?_
        refine lv_istore_n (lv' := [(2, .int ((sumC z i) + (z (14 + 16 * i + 1)))), (4, .int (z (14 + 16 * i + 1))), (0, .ref (q 0)), (1, .int 1), (3, .int (nI i))]) hx hb dX6_sumOfBalances_44 rfl hl (by decide) rfl (fun ls hl => ?_)
        refine lv_iinc (v := nI (i + 1)) (lv' := [(3, .int (nI (i + 1))), (2, .int ((sumC z i) + (z (14 + 16 * i + 1)))), (4, .int (z (14 + 16 * i + 1))), (0, .ref (q 0)), (1, .int 1)]) hx hb dX6_sumOfBalances_45 hl (k := 4) rfl (nI_1 _) (by decide) rfl (fun ls hl => ?_)
        refine lv_goto (tgt := 4) hx hb dX6_sumOfBalances_48 (by decide) ?_
        have hl := (congrArg (fun qv_ => lv_has ls 5 [(3, .int (nI (i + 1))), (2, qv_), (4, .int (z (14 + 16 * i + 1))), (0, .ref (q 0)), (1, .int 1)]) (show Value.int ((sumC z i) + (z (14 + 16 * i + 1))) = .int (sumC z (i + 1)) from congrArg Value.int (congrArg (fun y_ => sumC z i + y_) (maxP_d (fun q_ => Int32.lt_asymm q_ c3))))).mp hl
        exact ih4 (i + 1) (by omega) _ _ hP hD hS ls (lv_sub hl [3, 4, 1, 0] rfl)
  have hl := (congrArg (fun qv_ => lv_has ls 5 [(3, .int 0), (2, qv_), (0, .ref (q 0)), (1, .int 1)]) (show Value.int 0 = .int (sumC z 0) from congrArg Value.int (rfl))).mp hl
  have hl := (congrArg (fun qv_ => lv_has ls 5 [(3, qv_), (2, .int (sumC z 0)), (0, .ref (q 0)), (1, .int 1)]) (show Value.int 0 = .int (nI 0) from congrArg Value.int (rfl))).mp hl
  exact K4 n 0 (by omega) _ _ hP hD hS ls (lv_sub hl [2, 3, 1, 0] rfl)
set_option maxHeartbeats 4000000 in
set_option maxRecDepth 100000 in
theorem c_X6_sumOfBalances_0 {n : Nat} (hn : n ≤ 8) (hz : z 5 = nI n) : zM l D (zT cI cC cM cB cJ) yX6_sumOfBalances cX6_sumOfBalances 5 (some .int) ({ frames := 1, cells := 0, slots := 0, locals := 22 } : Room) [.ref (q 0), .int 0] (moW cI q z hi tx pa ke mr hs wr) (moW cI q z hi tx pa ke mr hs wr) (some (.int (sumD z n))) 0 0 := by
  refine z_enter (by decide) (Nat.le_of_ble_eq_true rfl) ?_
  intro p e s m below meth c A S hr hlocks hnm hN hA hK hP hD hS ls hl
  obtain ⟨hx, hb, hml, hown, hts⟩ := id S
  have hl : lv_has ls 5 [(0, .ref (q 0)), (1, .int 0)] := hl
  have hP : va_P D vwCl (moW cI q z hi tx pa ke mr hs wr) s.heap := hP
  have hD : va_D A (moW cI q z hi tx pa ke mr hs wr) := hD
  refine lv_iconst (v := 0) hx hb dX6_sumOfBalances_0 (by decide) ?_
  refine lv_istore_n (lv' := [(2, .int 0), (0, .ref (q 0)), (1, .int 0)]) hx hb dX6_sumOfBalances_1 rfl hl (by decide) rfl (fun ls hl => ?_)
  refine lv_iconst (v := 0) hx hb dX6_sumOfBalances_2 (by decide) ?_
  refine lv_istore_n (lv' := [(3, .int 0), (2, .int 0), (0, .ref (q 0)), (1, .int 0)]) hx hb dX6_sumOfBalances_3 rfl hl (by decide) rfl (fun ls hl => ?_)
  have K4 : ∀ (n4 i : Nat), i + n4 = n → ∀ (H : Heap) (locs : List Loc), va_P D vwCl (moW cI q z hi tx pa ke mr hs wr) H → va_D A (moW cI q z hi tx pa ke mr hs wr) → va_S A s.heap H locs → ∀ ls : Array Slot, lv_has ls 5 [(0, .ref (q 0)), (1, .int 0), (2, .int (sumD z i)), (3, .int (nI i))] → W p l e ({ frames := 1, cells := 0, slots := 0, locals := 22 } : Room) s m ([.ref (q 0), .int 0] : List Value).toArray below meth c H locs 0 0 (MQ below (zQ D (zT cI cC cM cB cJ) (moW cI q z hi tx pa ke mr hs wr) (some (.int (sumD z n))) A) ([.ref (q 0), .int 0] : List Value).toArray s 0 0 A) (F0 m 4 ls []) := by
    intro n4
    induction n4 with
    | zero =>
      intro i h_i H locs hP hD hS ls hl
      have ei : n = i := by omega
      subst ei
      refine lv_iload_n hx hb dX6_sumOfBalances_4 rfl (lv_at hl 3 rfl) ?_
      refine lv_aload_n hx hb dX6_sumOfBalances_5 rfl (lv_at hl 0 rfl) ?_
      refine va_get (v := .ref (q 1)) hx hb hts inTX6 hown hK hP (0) (mo_0) rfl 0 (by decide) (hts _ qf_X6_7) (fun _ h9 => h9) (rfl) dX6_sumOfBalances_6 ?_
      refine lv_iconst (v := 5) hx hb dX6_sumOfBalances_9 (by decide) ?_
      refine va_iald hx hb hK hP (1) 0 (mo_1) rfl (vp_in_nI (show 5 < 142 by decide) (by omega)) dX6_sumOfBalances_10 ?_
      refine z_top (v2 := .int (nI n)) (congrArg Value.int (((congrArg (zfn z) (z_cl (k := 5) rfl)).trans (zfn_at (by omega))).trans (hz))) ?_
      refine lv_icmp_ge (tgt := 51) hx hb dX6_sumOfBalances_11 (by decide) (fun c1 => ?_) (fun c1 => absurd (nI_le (a := n) (b := n) (by omega) (by omega)) c1)
      have c1 := z_nlt c1
      refine lv_iload_n hx hb dX6_sumOfBalances_51 rfl (lv_at hl 2 rfl) ?_
      exact z_iret hx hb hr hlocks hP hD hK hS (rfl) (by first | rfl | (simp only [minP, maxP, c1, not_true_eq_false, not_false_eq_true, and_self, and_true, true_and, and_false, false_and, or_true, true_or, or_false, false_or, if_true, if_false, ite_true, ite_false]; done) | (simp [minP, maxP, c1]; done) | (simp_all [minP, maxP]; done)) dX6_sumOfBalances_52
    | succ n4 ih4 =>
      intro i h_i H locs hP hD hS ls hl
      have li : i < n := by omega
      refine lv_iload_n hx hb dX6_sumOfBalances_4 rfl (lv_at hl 3 rfl) ?_
      refine lv_aload_n hx hb dX6_sumOfBalances_5 rfl (lv_at hl 0 rfl) ?_
      refine va_get (v := .ref (q 1)) hx hb hts inTX6 hown hK hP (0) (mo_0) rfl 0 (by decide) (hts _ qf_X6_7) (fun _ h9 => h9) (rfl) dX6_sumOfBalances_6 ?_
      refine lv_iconst (v := 5) hx hb dX6_sumOfBalances_9 (by decide) ?_
      refine va_iald hx hb hK hP (1) 0 (mo_1) rfl (vp_in_nI (show 5 < 142 by decide) (by omega)) dX6_sumOfBalances_10 ?_
      refine z_top (v2 := .int (nI n)) (congrArg Value.int (((congrArg (zfn z) (z_cl (k := 5) rfl)).trans (zfn_at (by omega))).trans (hz))) ?_
      refine lv_icmp_ge (tgt := 51) hx hb dX6_sumOfBalances_11 (by decide) (fun c2 => absurd c2 (nI_ge (a := i) (b := n) (by omega) (by omega))) (fun c2 => ?_)
      have c2 := z_lt c2
      refine lv_aload_n hx hb dX6_sumOfBalances_14 rfl (lv_at hl 0 rfl) ?_
      refine lv_iload_n hx hb dX6_sumOfBalances_15 rfl (lv_at hl 3 rfl) ?_
      refine lv_iconst (v := 1) hx hb dX6_sumOfBalances_16 (by decide) ?_
      refine z_callV1 (rest := []) S (c_X6_of i 1 (14 + 16 * i + 1) (show i < 8 by omega) (show 1 < 16 by decide) (by omega) (z (14 + 16 * i + 1)) (rfl)) qm_X6_36 v_X6_of ⟨Nat.le_of_ble_eq_true rfl, Nat.le_of_ble_eq_true rfl⟩ rfl rfl hN hK hP hD hS hA (0) (mo_0) rfl rfl hl.1 rfl (Nat.le_of_ble_eq_true rfl) dX6_sumOfBalances_17 ⟨Nat.le_of_ble_eq_true rfl, Nat.le_of_ble_eq_true rfl⟩ (fun H locs hP hD hS => ?_)
      refine lv_istore (lv' := [(4, .int (z (14 + 16 * i + 1))), (0, .ref (q 0)), (1, .int 0), (2, .int (sumD z i)), (3, .int (nI i))]) hx hb dX6_sumOfBalances_20 hl (by decide) rfl (fun ls hl => ?_)
      refine lv_iload_n hx hb dX6_sumOfBalances_22 rfl (lv_at hl 3 rfl) ?_
      refine lv_iload hx hb dX6_sumOfBalances_23 (lv_at hl 0 rfl) ?_
      refine lv_if_le (tgt := 32) hx hb dX6_sumOfBalances_25 (by decide) (fun c3 => ?_) (fun c3 => ?_)
      · have c3 := z_nlt c3
        refine lv_iconst (v := 0) hx hb dX6_sumOfBalances_32 (by decide) ?_
        refine lv_iload_n hx hb dX6_sumOfBalances_33 rfl (lv_at hl 2 rfl) ?_
        refine lv_icmp_ne (tgt := 42) hx hb dX6_sumOfBalances_34 (by decide) (fun c4 => absurd c4 (by decide)) (fun c4 => ?_)
        refine lv_iload hx hb dX6_sumOfBalances_37 (lv_at hl 0 rfl) ?_
        refine lv_goto (tgt := 43) hx hb dX6_sumOfBalances_39 (by decide) ?_
        refine lv_iadd hx hb dX6_sumOfBalances_43  ?_
        refine lv_istore_n (lv' := [(2, .int ((sumD z i) + (z (14 + 16 * i + 1)))), (4, .int (z (14 + 16 * i + 1))), (0, .ref (q 0)), (1, .int 0), (3, .int (nI i))]) hx hb dX6_sumOfBalances_44 rfl hl (by decide) rfl (fun ls hl => ?_)
        refine lv_iinc (v := nI (i + 1)) (lv' := [(3, .int (nI (i + 1))), (2, .int ((sumD z i) + (z (14 + 16 * i + 1)))), (4, .int (z (14 + 16 * i + 1))), (0, .ref (q 0)), (1, .int 0)]) hx hb dX6_sumOfBalances_45 hl (k := 4) rfl (nI_1 _) (by decide) rfl (fun ls hl => ?_)
        refine lv_goto (tgt := 4) hx hb dX6_sumOfBalances_48 (by decide) ?_
        have hl := (congrArg (fun qv_ => lv_has ls 5 [(3, .int (nI (i + 1))), (2, qv_), (4, .int (z (14 + 16 * i + 1))), (0, .ref (q 0)), (1, .int 0)]) (show Value.int ((sumD z i) + (z (14 + 16 * i + 1))) = .int (sumD z (i + 1)) from congrArg Value.int (congrArg (fun y_ => sumD z i + y_) (minP_d c3)))).mp hl
        exact ih4 (i + 1) (by omega) _ _ hP hD hS ls (lv_sub hl [3, 4, 1, 0] rfl)
      · have c3 := z_lt c3
        refine lv_iconst (v := 1) hx hb dX6_sumOfBalances_28 (by decide) ?_
        refine lv_goto (tgt := 33) hx hb dX6_sumOfBalances_29 (by decide) ?_
        refine lv_iload_n hx hb dX6_sumOfBalances_33 rfl (lv_at hl 2 rfl) ?_
        refine lv_icmp_ne (tgt := 42) hx hb dX6_sumOfBalances_34 (by decide) (fun c5 => ?_) (fun c5 => absurd c5 (by decide))
        refine lv_iconst (v := 0) hx hb dX6_sumOfBalances_42 (by decide) ?_
        refine lv_iadd hx hb dX6_sumOfBalances_43  ?_
        refine lv_istore_n (lv' := [(2, .int ((sumD z i) + 0)), (4, .int (z (14 + 16 * i + 1))), (0, .ref (q 0)), (1, .int 0), (3, .int (nI i))]) hx hb dX6_sumOfBalances_44 rfl hl (by decide) rfl (fun ls hl => ?_)
        refine lv_iinc (v := nI (i + 1)) (lv' := [(3, .int (nI (i + 1))), (2, .int ((sumD z i) + 0)), (4, .int (z (14 + 16 * i + 1))), (0, .ref (q 0)), (1, .int 0)]) hx hb dX6_sumOfBalances_45 hl (k := 4) rfl (nI_1 _) (by decide) rfl (fun ls hl => ?_)
        refine lv_goto (tgt := 4) hx hb dX6_sumOfBalances_48 (by decide) ?_
        have hl := (congrArg (fun qv_ => lv_has ls 5 [(3, .int (nI (i + 1))), (2, qv_), (4, .int (z (14 + 16 * i + 1))), (0, .ref (q 0)), (1, .int 0)]) (show Value.int ((sumD z i) + 0) = .int (sumD z (i + 1)) from congrArg Value.int (congrArg (fun y_ => sumD z i + y_) (minP_c c3)))).mp hl
        exact ih4 (i + 1) (by omega) _ _ hP hD hS ls (lv_sub hl [3, 4, 1, 0] rfl)
  have hl := (congrArg (fun qv_ => lv_has ls 5 [(3, .int 0), (2, qv_), (0, .ref (q 0)), (1, .int 0)]) (show Value.int 0 = .int (sumD z 0) from congrArg Value.int (rfl))).mp hl
  have hl := (congrArg (fun qv_ => lv_has ls 5 [(3, qv_), (2, .int (sumD z 0)), (0, .ref (q 0)), (1, .int 0)]) (show Value.int 0 = .int (nI 0) from congrArg Value.int (rfl))).mp hl
  exact K4 n 0 (by omega) _ _ hP hD hS ls (lv_sub hl [2, 3, 1, 0] rfl)
set_option maxHeartbeats 4000000 in
set_option maxRecDepth 100000 in
theorem c_X6_counted {n : Nat} (hn : n ≤ 8) (hz : z 5 = nI n) (hB : hBool z) (h12 : oneP (z 12) 8 = cntB z 1 n) (h13 : oneP (z 13) 8 = cntB z 2 n) {u : Nat} (hm : mr 0 = nI u) (xx : Int32) : zM l D (zT cI cC cM cB cJ) yX6_counted cX6_counted 2 (some .int) ({ frames := 2, cells := 0, slots := 0, locals := 46 } : Room) [.ref (q 0), .int xx] (moW cI q z hi tx pa ke mr hs wr) (moW cI q z hi tx pa ke mr hs wr) (some (.int (numP z n u xx))) 0 0 := by
  refine z_enter (by decide) (Nat.le_of_ble_eq_true rfl) ?_
  intro p e s m below meth c A S hr hlocks hnm hN hA hK hP hD hS ls hl
  obtain ⟨hx, hb, hml, hown, hts⟩ := id S
  have hl : lv_has ls 2 [(0, .ref (q 0)), (1, .int xx)] := hl
  have hP : va_P D vwCl (moW cI q z hi tx pa ke mr hs wr) s.heap := hP
  have hD : va_D A (moW cI q z hi tx pa ke mr hs wr) := hD
  refine lv_iload_n hx hb dX6_counted_0 rfl (lv_at hl 1 rfl) ?_
  rcases z_cases12 xx with c1 | c1 | c1 | c1 | c1 | c1 | c1 | c1 | c1 | c1 | c1 | c1 | c1 | c1
  · refine lv_tableIn (tgt := 68) (off := 67) hx hb dX6_counted_1 (by rw [c1]; decide) (by rw [c1]; decide) (by rw [c1]; decide) (by decide) ?_
    refine lv_aload_n hx hb dX6_counted_68 rfl (lv_at hl 0 rfl) ?_
    refine va_get (v := .ref (q 1)) hx hb hts inTX6 hown hK hP (0) (mo_0) rfl 0 (by decide) (hts _ qf_X6_7) (fun _ h9 => h9) (rfl) dX6_counted_69 ?_
    refine lv_iconst (v := 5) hx hb dX6_counted_72 (by decide) ?_
    refine va_iald hx hb hK hP (1) 0 (mo_1) rfl (vp_in_nI (show 5 < 142 by decide) (by omega)) dX6_counted_73 ?_
    refine z_top (v2 := .int (nI n)) (congrArg Value.int (((congrArg (zfn z) (z_cl (k := 5) rfl)).trans (zfn_at (by omega))).trans (hz))) ?_
    exact z_iret hx hb hr hlocks hP hD hK hS (rfl) (by first | rfl | (simp only [numP, minP, maxP, c1, not_true_eq_false, not_false_eq_true, and_self, and_true, true_and, and_false, false_and, or_true, true_or, or_false, false_or, if_true, if_false, ite_true, ite_false]; done) | (simp [numP, minP, maxP, c1]; done) | (simp_all [numP, minP, maxP]; done)) dX6_counted_74
  · refine lv_tableIn (tgt := 75) (off := 74) hx hb dX6_counted_1 (by rw [c1]; decide) (by rw [c1]; decide) (by rw [c1]; decide) (by decide) ?_
    refine lv_aload_n hx hb dX6_counted_75 rfl (lv_at hl 0 rfl) ?_
    refine z_callV1 (rest := []) S (c_X6_allThere (n := n) (show n ≤ 8 by omega) (hz) hB) qm_X6_40 v_X6_allThere ⟨Nat.le_of_ble_eq_true rfl, Nat.le_of_ble_eq_true rfl⟩ rfl rfl hN hK hP hD hS hA (0) (mo_0) rfl rfl hl.1 rfl (Nat.le_of_ble_eq_true rfl) dX6_counted_76 ⟨Nat.le_of_ble_eq_true rfl, Nat.le_of_ble_eq_true rfl⟩ (fun H locs hP hD hS => ?_)
    exact z_iret hx hb hr hlocks hP hD hK hS (rfl) (by first | rfl | (simp only [numP, minP, maxP, c1, not_true_eq_false, not_false_eq_true, and_self, and_true, true_and, and_false, false_and, or_true, true_or, or_false, false_or, if_true, if_false, ite_true, ite_false]; done) | (simp [numP, minP, maxP, c1]; done) | (simp_all [numP, minP, maxP]; done)) dX6_counted_79
  · refine lv_tableIn (tgt := 80) (off := 79) hx hb dX6_counted_1 (by rw [c1]; decide) (by rw [c1]; decide) (by rw [c1]; decide) (by decide) ?_
    refine lv_aload_n hx hb dX6_counted_80 rfl (lv_at hl 0 rfl) ?_
    refine va_get (v := .ref (q 1)) hx hb hts inTX6 hown hK hP (0) (mo_0) rfl 0 (by decide) (hts _ qf_X6_7) (fun _ h9 => h9) (rfl) dX6_counted_81 ?_
    refine lv_bipush (v := 6) hx hb dX6_counted_84 (by decide) ?_
    refine lv_iload_n hx hb dX6_counted_86 rfl (lv_at hl 1 rfl) ?_
    refine z_top (v2 := .int 2) (congrArg Value.int c1) ?_
    refine lv_iadd hx hb dX6_counted_87  ?_
    refine z_top (v2 := .int 8) (congrArg Value.int (show (6 + 2 : Int32) = 8 by decide)) ?_
    refine lv_iconst (v := 2) hx hb dX6_counted_88 (by decide) ?_
    refine lv_isub hx hb dX6_counted_89  ?_
    refine z_top (v2 := .int 6) (congrArg Value.int (show (8 - 2 : Int32) = 6 by decide)) ?_
    refine va_iald hx hb hK hP (1) 0 (mo_1) rfl (vp_in_nI (show 6 < 142 by decide) (by omega)) dX6_counted_90 ?_
    refine z_top (v2 := .int (z 6)) (congrArg Value.int (((congrArg (zfn z) (z_cl (k := 6) rfl)).trans (zfn_at (by omega))).trans (rfl))) ?_
    exact z_iret hx hb hr hlocks hP hD hK hS (rfl) (by first | rfl | (simp only [numP, minP, maxP, c1, not_true_eq_false, not_false_eq_true, and_self, and_true, true_and, and_false, false_and, or_true, true_or, or_false, false_or, if_true, if_false, ite_true, ite_false]; done) | (simp [numP, minP, maxP, c1]; done) | (simp_all [numP, minP, maxP]; done)) dX6_counted_91
  · refine lv_tableIn (tgt := 80) (off := 79) hx hb dX6_counted_1 (by rw [c1]; decide) (by rw [c1]; decide) (by rw [c1]; decide) (by decide) ?_
    refine lv_aload_n hx hb dX6_counted_80 rfl (lv_at hl 0 rfl) ?_
    refine va_get (v := .ref (q 1)) hx hb hts inTX6 hown hK hP (0) (mo_0) rfl 0 (by decide) (hts _ qf_X6_7) (fun _ h9 => h9) (rfl) dX6_counted_81 ?_
    refine lv_bipush (v := 6) hx hb dX6_counted_84 (by decide) ?_
    refine lv_iload_n hx hb dX6_counted_86 rfl (lv_at hl 1 rfl) ?_
    refine z_top (v2 := .int 3) (congrArg Value.int c1) ?_
    refine lv_iadd hx hb dX6_counted_87  ?_
    refine z_top (v2 := .int 9) (congrArg Value.int (show (6 + 3 : Int32) = 9 by decide)) ?_
    refine lv_iconst (v := 2) hx hb dX6_counted_88 (by decide) ?_
    refine lv_isub hx hb dX6_counted_89  ?_
    refine z_top (v2 := .int 7) (congrArg Value.int (show (9 - 2 : Int32) = 7 by decide)) ?_
    refine va_iald hx hb hK hP (1) 0 (mo_1) rfl (vp_in_nI (show 7 < 142 by decide) (by omega)) dX6_counted_90 ?_
    refine z_top (v2 := .int (z 7)) (congrArg Value.int (((congrArg (zfn z) (z_cl (k := 7) rfl)).trans (zfn_at (by omega))).trans (rfl))) ?_
    exact z_iret hx hb hr hlocks hP hD hK hS (rfl) (by first | rfl | (simp only [numP, minP, maxP, c1, not_true_eq_false, not_false_eq_true, and_self, and_true, true_and, and_false, false_and, or_true, true_or, or_false, false_or, if_true, if_false, ite_true, ite_false]; done) | (simp [numP, minP, maxP, c1]; done) | (simp_all [numP, minP, maxP]; done)) dX6_counted_91
  · refine lv_tableIn (tgt := 80) (off := 79) hx hb dX6_counted_1 (by rw [c1]; decide) (by rw [c1]; decide) (by rw [c1]; decide) (by decide) ?_
    refine lv_aload_n hx hb dX6_counted_80 rfl (lv_at hl 0 rfl) ?_
    refine va_get (v := .ref (q 1)) hx hb hts inTX6 hown hK hP (0) (mo_0) rfl 0 (by decide) (hts _ qf_X6_7) (fun _ h9 => h9) (rfl) dX6_counted_81 ?_
    refine lv_bipush (v := 6) hx hb dX6_counted_84 (by decide) ?_
    refine lv_iload_n hx hb dX6_counted_86 rfl (lv_at hl 1 rfl) ?_
    refine z_top (v2 := .int 4) (congrArg Value.int c1) ?_
    refine lv_iadd hx hb dX6_counted_87  ?_
    refine z_top (v2 := .int 10) (congrArg Value.int (show (6 + 4 : Int32) = 10 by decide)) ?_
    refine lv_iconst (v := 2) hx hb dX6_counted_88 (by decide) ?_
    refine lv_isub hx hb dX6_counted_89  ?_
    refine z_top (v2 := .int 8) (congrArg Value.int (show (10 - 2 : Int32) = 8 by decide)) ?_
    refine va_iald hx hb hK hP (1) 0 (mo_1) rfl (vp_in_nI (show 8 < 142 by decide) (by omega)) dX6_counted_90 ?_
    refine z_top (v2 := .int (z 8)) (congrArg Value.int (((congrArg (zfn z) (z_cl (k := 8) rfl)).trans (zfn_at (by omega))).trans (rfl))) ?_
    exact z_iret hx hb hr hlocks hP hD hK hS (rfl) (by first | rfl | (simp only [numP, minP, maxP, c1, not_true_eq_false, not_false_eq_true, and_self, and_true, true_and, and_false, false_and, or_true, true_or, or_false, false_or, if_true, if_false, ite_true, ite_false]; done) | (simp [numP, minP, maxP, c1]; done) | (simp_all [numP, minP, maxP]; done)) dX6_counted_91
  · refine lv_tableIn (tgt := 80) (off := 79) hx hb dX6_counted_1 (by rw [c1]; decide) (by rw [c1]; decide) (by rw [c1]; decide) (by decide) ?_
    refine lv_aload_n hx hb dX6_counted_80 rfl (lv_at hl 0 rfl) ?_
    refine va_get (v := .ref (q 1)) hx hb hts inTX6 hown hK hP (0) (mo_0) rfl 0 (by decide) (hts _ qf_X6_7) (fun _ h9 => h9) (rfl) dX6_counted_81 ?_
    refine lv_bipush (v := 6) hx hb dX6_counted_84 (by decide) ?_
    refine lv_iload_n hx hb dX6_counted_86 rfl (lv_at hl 1 rfl) ?_
    refine z_top (v2 := .int 5) (congrArg Value.int c1) ?_
    refine lv_iadd hx hb dX6_counted_87  ?_
    refine z_top (v2 := .int 11) (congrArg Value.int (show (6 + 5 : Int32) = 11 by decide)) ?_
    refine lv_iconst (v := 2) hx hb dX6_counted_88 (by decide) ?_
    refine lv_isub hx hb dX6_counted_89  ?_
    refine z_top (v2 := .int 9) (congrArg Value.int (show (11 - 2 : Int32) = 9 by decide)) ?_
    refine va_iald hx hb hK hP (1) 0 (mo_1) rfl (vp_in_nI (show 9 < 142 by decide) (by omega)) dX6_counted_90 ?_
    refine z_top (v2 := .int (z 9)) (congrArg Value.int (((congrArg (zfn z) (z_cl (k := 9) rfl)).trans (zfn_at (by omega))).trans (rfl))) ?_
    exact z_iret hx hb hr hlocks hP hD hK hS (rfl) (by first | rfl | (simp only [numP, minP, maxP, c1, not_true_eq_false, not_false_eq_true, and_self, and_true, true_and, and_false, false_and, or_true, true_or, or_false, false_or, if_true, if_false, ite_true, ite_false]; done) | (simp [numP, minP, maxP, c1]; done) | (simp_all [numP, minP, maxP]; done)) dX6_counted_91
  · refine lv_tableIn (tgt := 92) (off := 91) hx hb dX6_counted_1 (by rw [c1]; decide) (by rw [c1]; decide) (by rw [c1]; decide) (by decide) ?_
    refine lv_aload_n hx hb dX6_counted_92 rfl (lv_at hl 0 rfl) ?_
    refine lv_iconst (v := 1) hx hb dX6_counted_93 (by decide) ?_
    refine z_callV1 (rest := []) S (c_X6_sumOfBalances_1 (n := n) (show n ≤ 8 by omega) (hz)) qm_X6_153 v_X6_sumOfBalances ⟨Nat.le_of_ble_eq_true rfl, Nat.le_of_ble_eq_true rfl⟩ rfl rfl hN hK hP hD hS hA (0) (mo_0) rfl rfl hl.1 rfl (Nat.le_of_ble_eq_true rfl) dX6_counted_94 ⟨Nat.le_of_ble_eq_true rfl, Nat.le_of_ble_eq_true rfl⟩ (fun H locs hP hD hS => ?_)
    exact z_iret hx hb hr hlocks hP hD hK hS (rfl) (by first | rfl | (simp only [numP, minP, maxP, c1, not_true_eq_false, not_false_eq_true, and_self, and_true, true_and, and_false, false_and, or_true, true_or, or_false, false_or, if_true, if_false, ite_true, ite_false]; done) | (simp [numP, minP, maxP, c1]; done) | (simp_all [numP, minP, maxP]; done)) dX6_counted_97
  · refine lv_tableIn (tgt := 98) (off := 97) hx hb dX6_counted_1 (by rw [c1]; decide) (by rw [c1]; decide) (by rw [c1]; decide) (by decide) ?_
    refine lv_aload_n hx hb dX6_counted_98 rfl (lv_at hl 0 rfl) ?_
    refine lv_iconst (v := 0) hx hb dX6_counted_99 (by decide) ?_
    refine z_callV1 (rest := []) S (c_X6_sumOfBalances_0 (n := n) (show n ≤ 8 by omega) (hz)) qm_X6_153 v_X6_sumOfBalances ⟨Nat.le_of_ble_eq_true rfl, Nat.le_of_ble_eq_true rfl⟩ rfl rfl hN hK hP hD hS hA (0) (mo_0) rfl rfl hl.1 rfl (Nat.le_of_ble_eq_true rfl) dX6_counted_100 ⟨Nat.le_of_ble_eq_true rfl, Nat.le_of_ble_eq_true rfl⟩ (fun H locs hP hD hS => ?_)
    exact z_iret hx hb hr hlocks hP hD hK hS (rfl) (by first | rfl | (simp only [numP, minP, maxP, c1, not_true_eq_false, not_false_eq_true, and_self, and_true, true_and, and_false, false_and, or_true, true_or, or_false, false_or, if_true, if_false, ite_true, ite_false]; done) | (simp [numP, minP, maxP, c1]; done) | (simp_all [numP, minP, maxP]; done)) dX6_counted_103
  · refine lv_tableIn (tgt := 104) (off := 103) hx hb dX6_counted_1 (by rw [c1]; decide) (by rw [c1]; decide) (by rw [c1]; decide) (by decide) ?_
    refine lv_aload_n hx hb dX6_counted_104 rfl (lv_at hl 0 rfl) ?_
    refine lv_iconst (v := 2) hx hb dX6_counted_105 (by decide) ?_
    refine z_callV1 (rest := []) S (c_X6_sumOf (n := n) (show n ≤ 8 by omega) (hz) 2 (show 2 < 16 by decide)) qm_X6_157 v_X6_sumOf ⟨Nat.le_of_ble_eq_true rfl, Nat.le_of_ble_eq_true rfl⟩ rfl rfl hN hK hP hD hS hA (0) (mo_0) rfl rfl hl.1 rfl (Nat.le_of_ble_eq_true rfl) dX6_counted_106 ⟨Nat.le_of_ble_eq_true rfl, Nat.le_of_ble_eq_true rfl⟩ (fun H locs hP hD hS => ?_)
    exact z_iret hx hb hr hlocks hP hD hK hS (rfl) (by first | rfl | (simp only [numP, minP, maxP, c1, not_true_eq_false, not_false_eq_true, and_self, and_true, true_and, and_false, false_and, or_true, true_or, or_false, false_or, if_true, if_false, ite_true, ite_false]; done) | (simp [numP, minP, maxP, c1]; done) | (simp_all [numP, minP, maxP]; done)) dX6_counted_109
  · refine lv_tableIn (tgt := 110) (off := 109) hx hb dX6_counted_1 (by rw [c1]; decide) (by rw [c1]; decide) (by rw [c1]; decide) (by decide) ?_
    refine lv_aload_n hx hb dX6_counted_110 rfl (lv_at hl 0 rfl) ?_
    refine va_get (v := .ref (q 1)) hx hb hts inTX6 hown hK hP (0) (mo_0) rfl 0 (by decide) (hts _ qf_X6_7) (fun _ h9 => h9) (rfl) dX6_counted_111 ?_
    refine lv_bipush (v := 10) hx hb dX6_counted_114 (by decide) ?_
    refine va_iald hx hb hK hP (1) 0 (mo_1) rfl (vp_in_nI (show 10 < 142 by decide) (by omega)) dX6_counted_116 ?_
    refine z_top (v2 := .int (z 10)) (congrArg Value.int (((congrArg (zfn z) (z_cl (k := 10) rfl)).trans (zfn_at (by omega))).trans (rfl))) ?_
    exact z_iret hx hb hr hlocks hP hD hK hS (rfl) (by first | rfl | (simp only [numP, minP, maxP, c1, not_true_eq_false, not_false_eq_true, and_self, and_true, true_and, and_false, false_and, or_true, true_or, or_false, false_or, if_true, if_false, ite_true, ite_false]; done) | (simp [numP, minP, maxP, c1]; done) | (simp_all [numP, minP, maxP]; done)) dX6_counted_117
  · refine lv_tableIn (tgt := 118) (off := 117) hx hb dX6_counted_1 (by rw [c1]; decide) (by rw [c1]; decide) (by rw [c1]; decide) (by decide) ?_
    refine lv_aload_n hx hb dX6_counted_118 rfl (lv_at hl 0 rfl) ?_
    refine va_get (v := .ref (q 1)) hx hb hts inTX6 hown hK hP (0) (mo_0) rfl 0 (by decide) (hts _ qf_X6_7) (fun _ h9 => h9) (rfl) dX6_counted_119 ?_
    refine lv_bipush (v := 11) hx hb dX6_counted_122 (by decide) ?_
    refine va_iald hx hb hK hP (1) 0 (mo_1) rfl (vp_in_nI (show 11 < 142 by decide) (by omega)) dX6_counted_124 ?_
    refine z_top (v2 := .int (z 11)) (congrArg Value.int (((congrArg (zfn z) (z_cl (k := 11) rfl)).trans (zfn_at (by omega))).trans (rfl))) ?_
    exact z_iret hx hb hr hlocks hP hD hK hS (rfl) (by first | rfl | (simp only [numP, minP, maxP, c1, not_true_eq_false, not_false_eq_true, and_self, and_true, true_and, and_false, false_and, or_true, true_or, or_false, false_or, if_true, if_false, ite_true, ite_false]; done) | (simp [numP, minP, maxP, c1]; done) | (simp_all [numP, minP, maxP]; done)) dX6_counted_125
  · refine lv_tableIn (tgt := 126) (off := 125) hx hb dX6_counted_1 (by rw [c1]; decide) (by rw [c1]; decide) (by rw [c1]; decide) (by decide) ?_
    refine lv_aload_n hx hb dX6_counted_126 rfl (lv_at hl 0 rfl) ?_
    refine va_get (v := .ref (q 1)) hx hb hts inTX6 hown hK hP (0) (mo_0) rfl 0 (by decide) (hts _ qf_X6_7) (fun _ h9 => h9) (rfl) dX6_counted_127 ?_
    refine lv_bipush (v := 12) hx hb dX6_counted_130 (by decide) ?_
    refine va_iald hx hb hK hP (1) 0 (mo_1) rfl (vp_in_nI (show 12 < 142 by decide) (by omega)) dX6_counted_132 ?_
    refine z_top (v2 := .int (z 12)) (congrArg Value.int (((congrArg (zfn z) (z_cl (k := 12) rfl)).trans (zfn_at (by omega))).trans (rfl))) ?_
    refine z_callS1 (rest := []) S (c_X6_ones (z 12)) qm_X6_48 t_X6_ones ⟨Nat.le_of_ble_eq_true rfl, Nat.le_of_ble_eq_true rfl⟩ rfl rfl hN hK hP hD hS hA rfl hl.1 rfl (Nat.le_of_ble_eq_true rfl) dX6_counted_133 ⟨Nat.le_of_ble_eq_true rfl, Nat.le_of_ble_eq_true rfl⟩ (fun H locs hP hD hS => ?_)
    refine z_top (v2 := .int (cntB z 1 n)) (congrArg Value.int h12) ?_
    exact z_iret hx hb hr hlocks hP hD hK hS (rfl) (by first | rfl | (simp only [numP, minP, maxP, c1, not_true_eq_false, not_false_eq_true, and_self, and_true, true_and, and_false, false_and, or_true, true_or, or_false, false_or, if_true, if_false, ite_true, ite_false]; done) | (simp [numP, minP, maxP, c1]; done) | (simp_all [numP, minP, maxP]; done)) dX6_counted_136
  · refine lv_tableIn (tgt := 137) (off := 136) hx hb dX6_counted_1 (by rw [c1]; decide) (by rw [c1]; decide) (by rw [c1]; decide) (by decide) ?_
    refine lv_aload_n hx hb dX6_counted_137 rfl (lv_at hl 0 rfl) ?_
    refine va_get (v := .ref (q 1)) hx hb hts inTX6 hown hK hP (0) (mo_0) rfl 0 (by decide) (hts _ qf_X6_7) (fun _ h9 => h9) (rfl) dX6_counted_138 ?_
    refine lv_bipush (v := 13) hx hb dX6_counted_141 (by decide) ?_
    refine va_iald hx hb hK hP (1) 0 (mo_1) rfl (vp_in_nI (show 13 < 142 by decide) (by omega)) dX6_counted_143 ?_
    refine z_top (v2 := .int (z 13)) (congrArg Value.int (((congrArg (zfn z) (z_cl (k := 13) rfl)).trans (zfn_at (by omega))).trans (rfl))) ?_
    refine z_callS1 (rest := []) S (c_X6_ones (z 13)) qm_X6_48 t_X6_ones ⟨Nat.le_of_ble_eq_true rfl, Nat.le_of_ble_eq_true rfl⟩ rfl rfl hN hK hP hD hS hA rfl hl.1 rfl (Nat.le_of_ble_eq_true rfl) dX6_counted_144 ⟨Nat.le_of_ble_eq_true rfl, Nat.le_of_ble_eq_true rfl⟩ (fun H locs hP hD hS => ?_)
    refine z_top (v2 := .int (cntB z 2 n)) (congrArg Value.int h13) ?_
    exact z_iret hx hb hr hlocks hP hD hK hS (rfl) (by first | rfl | (simp only [numP, minP, maxP, c1, not_true_eq_false, not_false_eq_true, and_self, and_true, true_and, and_false, false_and, or_true, true_or, or_false, false_or, if_true, if_false, ite_true, ite_false]; done) | (simp [numP, minP, maxP, c1]; done) | (simp_all [numP, minP, maxP]; done)) dX6_counted_147
  · refine lv_tableOut (tgt := 148) hx hb dX6_counted_1 c1 (by decide) ?_
    refine lv_aload_n hx hb dX6_counted_148 rfl (lv_at hl 0 rfl) ?_
    refine va_get (v := .int (nI u)) hx hb hts inTX6 hown hK hP (0) (mo_0) rfl 1 (by decide) (hts _ qf_X6_29) (fun _ h9 => h9) (congrArg (fun x => some (Value.int x)) (hm)) dX6_counted_149 ?_
    exact z_iret hx hb hr hlocks hP hD hK hS (rfl) (by first | rfl | (simp only [numP, minP, maxP, z_out12 c1, not_true_eq_false, not_false_eq_true, and_self, and_true, true_and, and_false, false_and, or_true, true_or, or_false, false_or, if_true, if_false, ite_true, ite_false]; done) | (simp [numP, minP, maxP, z_out12 c1]; done) | (simp_all [numP, minP, maxP]; done)) dX6_counted_152
end XB
