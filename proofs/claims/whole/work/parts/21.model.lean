theorem mem_iff {n : Nat} (hn : n ≤ 8) (x : Int32) : inP x 0 (nI n - 1) ↔ mP x n := by
  constructor
  · intro h
    refine ⟨h.1, ?_⟩
    obtain ⟨j, hj, rfl⟩ := nI_of h.1
    rcases Nat.eq_zero_or_pos n with h0 | h0
    · subst h0
      exact absurd (Int32.lt_of_lt_of_le (show (nI 0 - 1 : Int32) < 0 by decide) (nI_pos' hj)) h.2
    · have h2 := h.2
      have e : nI n - 1 = nI (n - 1) := pk_sub (a := n) (b := 1) h0
      rw [e] at h2
      rcases Nat.lt_or_ge j n with q | q
      · exact nI_lt q (by omega)
      · exact absurd (nI_lt (a := n - 1) (b := j) (by omega) hj) h2
  · intro h
    refine ⟨h.1, ?_⟩
    obtain ⟨j, hj, rfl⟩ := mem_nat hn h
    have e : nI n - 1 = nI (n - 1) := pk_sub (a := n) (b := 1) (by omega)
    rw [e]
    exact nI_nlt (by omega) (by omega)
theorem cntT_s {z : Nat → Int32} {i : Nat} (h : z (14 + 16 * i) = 0 ∨ z (14 + 16 * i) = 1) : cntT z i + z (14 + 16 * i) = cntT z (i + 1) := by
  rw [cntT]
  rcases h with h | h
  · rw [if_pos h, h, Int32.add_zero]
  · rw [if_neg (by rw [h]; decide), h]
def endZ (z : Nat → Int32) : Nat → Int32 := upd (upd (upd (upd z 10 (-1)) 11 0) 12 0) 13 0
def lkR (z : Nat → Int32) (n d : Nat) : Int32 := if 0 < cntT z n - z (14 + 16 * d) then (if cntT z n - z (14 + 16 * d) < 2 * oneP (z 12) 8 then 1 else if 2 * oneP (z 13) 8 < cntT z n - z (14 + 16 * d) then 0 else 2) else 0
def lkZ (z : Nat → Int32) (n d : Nat) : Nat → Int32 := if 0 < cntT z n - z (14 + 16 * d) then (if cntT z n - z (14 + 16 * d) < 2 * oneP (z 12) 8 then endZ (upd (upd (upd z (14 + 16 * d + 1) (z (14 + 16 * d + 1) + z 11)) (14 + 16 * d + 10) (z (14 + 16 * d + 10) + z 11)) 7 (z 7 + z 11)) else if 2 * oneP (z 13) 8 < cntT z n - z (14 + 16 * d) then z else endZ z) else z
abbrev cdP (z : Nat → Int32) (g t k : Nat) (mn : Int32) : Prop := ¬ (nI g = nI t) ∧ ¬ (z (14 + 16 * g) = 0) ∧ ¬ (z (14 + 16 * t) = 0) ∧ ¬ (z (14 + 16 * t + 1) - valP (z (25 + 16 * g + k)) mn < -(z 0))
def dealM (z : Nat → Int32) (g t k : Nat) (mn : Int32) : Nat → Int32 :=
  upd (upd (upd (upd (upd (upd (upd (upd (upd (upd (upd (upd z (14 + 16 * t + 1) (z (14 + 16 * t + 1) + -(valP (z (25 + 16 * g + k)) mn))) (14 + 16 * t + 8) (z (14 + 16 * t + 8) + valP (z (25 + 16 * g + k)) mn)) (14 + 16 * t + 6) (z (14 + 16 * t + 6) + mn)) (14 + 16 * t + 4) 1)
    (14 + 16 * g + 1) (z (14 + 16 * g + 1) + (valP (z (25 + 16 * g + k)) mn - minP (valP (z (25 + 16 * g + k)) mn / 2) (z (14 + 16 * g + 2))))) (14 + 16 * g + 2) (z (14 + 16 * g + 2) + -(minP (valP (z (25 + 16 * g + k)) mn / 2) (z (14 + 16 * g + 2))))) 6 (z 6 + minP (valP (z (25 + 16 * g + k)) mn / 2) (z (14 + 16 * g + 2))))
    (14 + 16 * g + 7) (z (14 + 16 * g + 7) + valP (z (25 + 16 * g + k)) mn)) (14 + 16 * g + 5) (z (14 + 16 * g + 5) + mn)) (14 + 16 * g + 4) 1) (25 + 16 * g + k) (minP (z (25 + 16 * g + k) + mn) 9999)) 9 (z 9 + 1)
theorem minP_a {x y : Int32} (h : x < y) : x = minP x y := by
  unfold minP; rw [if_neg (Int32.lt_asymm h)]
theorem minP_b {x y : Int32} (h : ¬ x < y) : y = minP x y := by
  unfold minP
  split
  · rfl
  · rename_i q; exact Int32.le_antisymm (z_le h) (z_le q)
theorem minP_c {x y : Int32} (h : y < x) : y = minP x y := by unfold minP; rw [if_pos h]
theorem minP_d {x y : Int32} (h : ¬ y < x) : x = minP x y := by unfold minP; rw [if_neg h]
theorem maxP_c {x : Int32} (h : x < 0) : 0 = maxP x 0 := by unfold maxP; rw [if_pos h]
theorem maxP_d {x : Int32} (h : ¬ x < 0) : x = maxP x 0 := by unfold maxP; rw [if_neg h]
theorem decP_a {b q : Int32} (h : 0 < b) : b * q / 100 = decP b q := by unfold decP; rw [if_pos h]
theorem decP_b {b q : Int32} (h : ¬ 0 < b) : 0 = decP b q := by unfold decP; rw [if_neg h]
theorem idl_a {z : Nat → Int32} {j : Nat} (h : z (14 + 16 * j + 4) = 1) : 0 = idlP z j := by unfold idlP; rw [if_neg (by rw [h]; decide)]
theorem idl_b {z : Nat → Int32} {j : Nat} (hb : z (14 + 16 * j + 4) = 0 ∨ z (14 + 16 * j + 4) = 1) (h : ¬ z (14 + 16 * j + 4) = 1) : z (14 + 16 * j + 3) + 1 = idlP z j := by unfold idlP; rw [if_pos (hb.resolve_right h)]
def wkM (z : Nat → Int32) (j : Nat) : Nat → Int32 :=
  if z 2 < idlP z j then upd (upd (upd (rustZ (upd (upd z (14 + 16 * j + 3) (idlP z j)) (14 + 16 * j + 4) 0) j (z 4) 5) (14 + 16 * j + 1) (z (14 + 16 * j + 1) + -(decP (z (14 + 16 * j + 1)) (z 3)))) (14 + 16 * j + 9) (z (14 + 16 * j + 9) + decP (z (14 + 16 * j + 1)) (z 3))) 6 (z 6 + decP (z (14 + 16 * j + 1)) (z 3))
  else upd (upd z (14 + 16 * j + 3) (idlP z j)) (14 + 16 * j + 4) 0
def xwf (K : Int32) (a : va_W) (b : Int32 → va_W) : va_W := if K = 0 then a else b K
theorem xwf_0 {K : Int32} {a : va_W} {b : Int32 → va_W} (h : K = 0) : xwf K a b = a := if_pos h
theorem xwf_n {K : Int32} {a : va_W} {b : Int32 → va_W} {k : Int32} (h : K = k) (hk : ¬ k = 0) : xwf K a b = b k := by subst h; exact if_neg hk
def xv (K v : Int32) : Int32 := if K = 0 then v else 0
theorem xv_0 {K v : Int32} (h : K = 0) : xv K v = v := if_pos h
theorem xv_n {K v k : Int32} (h : K = k) (hk : ¬ k = 0) : xv K v = 0 := by subst h; exact if_neg hk
theorem rustZ_s {z : Nat → Int32} {j i : Nat} : upd (rustZ (upd (upd z (14 + 16 * j + 3) (idlP z j)) (14 + 16 * j + 4) 0) j (z 4) i) (25 + 16 * j + i) (maxP (z (25 + 16 * j + i) - z 4) 0) = rustZ (upd (upd z (14 + 16 * j + 3) (idlP z j)) (14 + 16 * j + 4) 0) j (z 4) (i + 1) := by
  rw [rustZ, upd_ne (by omega), upd_ne (by omega)]

section XB
variable {l : Launch} {D : va_G} {cI cC cM cB cJ : ClassId} {q : Nat → Nat} {z hi tx pa ke mr : Nat → Int32} {hs : Int64} {wr : va_W}
set_option maxHeartbeats 4000000 in
set_option maxRecDepth 100000 in
theorem c_X6_isMember {n : Nat} (hn : n ≤ 8) (hz : z 5 = nI n) (x : Int32) : zM l D (zT cI cC cM cB cJ) yX6_isMember cX6_isMember 2 (some .boolean) ({ frames := 1, cells := 0, slots := 0, locals := 22 } : Room) [.ref (q 0), .int x] (moW cI q z hi tx pa ke mr hs wr) (moW cI q z hi tx pa ke mr hs wr) (some (.int (bI (mP x n)))) 0 0 := by
  refine z_enter (by decide) (Nat.le_of_ble_eq_true rfl) ?_
  intro p e s m below meth c A S hr hlocks hnm hN hA hK hP hD hS ls hl
  obtain ⟨hx, hb, hml, hown, hts⟩ := id S
  have hl : lv_has ls 2 [(0, .ref (q 0)), (1, .int x)] := hl
  have hP : va_P D vwCl (moW cI q z hi tx pa ke mr hs wr) s.heap := hP
  have hD : va_D A (moW cI q z hi tx pa ke mr hs wr) := hD
  refine lv_iload_n hx hb dX6_isMember_0 rfl (lv_at hl 1 rfl) ?_
  refine lv_iconst (v := 0) hx hb dX6_isMember_1 (by decide) ?_
  refine lv_aload_n hx hb dX6_isMember_2 rfl (lv_at hl 0 rfl) ?_
  refine va_get (v := .ref (q 1)) hx hb hts inTX6 hown hK hP (0) (mo_0) rfl 0 (by decide) (hts _ qf_X6_7) (fun _ h9 => h9) (rfl) dX6_isMember_3 ?_
  refine lv_iconst (v := 5) hx hb dX6_isMember_6 (by decide) ?_
  refine va_iald hx hb hK hP (1) 0 (mo_1) rfl (vp_in_nI (show 5 < 142 by decide) (by omega)) dX6_isMember_7 ?_
  refine z_top (v2 := .int (nI n)) (congrArg Value.int (((congrArg (zfn z) (z_cl (k := 5) rfl)).trans (zfn_at (by omega))).trans (hz))) ?_
  refine lv_iconst (v := 1) hx hb dX6_isMember_8 (by decide) ?_
  refine lv_isub hx hb dX6_isMember_9  ?_
  refine z_callS1 (rest := []) S (c_X6_within x 0 ((nI n) - 1)) qm_X6_32 t_X6_within ⟨Nat.le_of_ble_eq_true rfl, Nat.le_of_ble_eq_true rfl⟩ rfl rfl hN hK hP hD hS hA rfl hl.1 rfl (Nat.le_of_ble_eq_true rfl) dX6_isMember_10 ⟨Nat.le_of_ble_eq_true rfl, Nat.le_of_ble_eq_true rfl⟩ (fun H locs hP hD hS => ?_)
  exact z_zret hx hb hr hlocks hP hD hK hS (rfl) (congrArg (fun b_ => some (Value.int b_)) (bI_iff (mem_iff hn x))) (bI_nr _) dX6_isMember_13
set_option maxHeartbeats 4000000 in
set_option maxRecDepth 100000 in
theorem c_X6_isThere (j : Nat) (hj : j < 8) (hT : z (14 + 16 * j) = 0 ∨ z (14 + 16 * j) = 1) : zM l D (zT cI cC cM cB cJ) yX6_isThere cX6_isThere 2 (some .boolean) ({ frames := 1, cells := 0, slots := 0, locals := 22 } : Room) [.ref (q 0), .int (nI j)] (moW cI q z hi tx pa ke mr hs wr) (moW cI q z hi tx pa ke mr hs wr) (some (.int (bI (¬ (z (14 + 16 * j) = 0))))) 0 0 := by
  refine z_enter (by decide) (Nat.le_of_ble_eq_true rfl) ?_
  intro p e s m below meth c A S hr hlocks hnm hN hA hK hP hD hS ls hl
  obtain ⟨hx, hb, hml, hown, hts⟩ := id S
  have hl : lv_has ls 2 [(0, .ref (q 0)), (1, .int (nI j))] := hl
  have hP : va_P D vwCl (moW cI q z hi tx pa ke mr hs wr) s.heap := hP
  have hD : va_D A (moW cI q z hi tx pa ke mr hs wr) := hD
  refine lv_aload_n hx hb dX6_isThere_0 rfl (lv_at hl 0 rfl) ?_
  refine lv_iload_n hx hb dX6_isThere_1 rfl (lv_at hl 1 rfl) ?_
  refine lv_iconst (v := 0) hx hb dX6_isThere_2 (by decide) ?_
  refine z_callV1 (rest := []) S (c_X6_of j 0 (14 + 16 * j) (show j < 8 by omega) (show 0 < 16 by decide) (by omega) (z (14 + 16 * j)) (rfl)) qm_X6_36 v_X6_of ⟨Nat.le_of_ble_eq_true rfl, Nat.le_of_ble_eq_true rfl⟩ rfl rfl hN hK hP hD hS hA (0) (mo_0) rfl rfl hl.1 rfl (Nat.le_of_ble_eq_true rfl) dX6_isThere_3 ⟨Nat.le_of_ble_eq_true rfl, Nat.le_of_ble_eq_true rfl⟩ (fun H locs hP hD hS => ?_)
  refine lv_iconst (v := 1) hx hb dX6_isThere_6 (by decide) ?_
  refine lv_icmp_ne (tgt := 14) hx hb dX6_isThere_7 (by decide) (fun c1 => ?_) (fun c1 => ?_)
  · skip
    refine lv_iconst (v := 0) hx hb dX6_isThere_14 (by decide) ?_
    exact z_zret hx hb hr hlocks hP hD hK hS (rfl) (congrArg (fun b_ => some (Value.int b_)) (bI_f (not_not_intro (hT.resolve_right c1))).symm) rfl dX6_isThere_15
  · skip
    refine lv_iconst (v := 1) hx hb dX6_isThere_10 (by decide) ?_
    refine lv_goto (tgt := 15) hx hb dX6_isThere_11 (by decide) ?_
    exact z_zret hx hb hr hlocks hP hD hK hS (rfl) (congrArg (fun b_ => some (Value.int b_)) (bI_t (show ¬ (z (14 + 16 * j) = 0) by rw [c1]; decide)).symm) rfl dX6_isThere_15
set_option maxHeartbeats 4000000 in
set_option maxRecDepth 100000 in
theorem c_X6_allThere {n : Nat} (hn : n ≤ 8) (hz : z 5 = nI n) (hB : hBool z) : zM l D (zT cI cC cM cB cJ) yX6_allThere cX6_allThere 3 (some .int) ({ frames := 1, cells := 0, slots := 0, locals := 22 } : Room) [.ref (q 0)] (moW cI q z hi tx pa ke mr hs wr) (moW cI q z hi tx pa ke mr hs wr) (some (.int (cntT z n))) 0 0 := by
  refine z_enter (by decide) (Nat.le_of_ble_eq_true rfl) ?_
  intro p e s m below meth c A S hr hlocks hnm hN hA hK hP hD hS ls hl
  obtain ⟨hx, hb, hml, hown, hts⟩ := id S
  have hl : lv_has ls 3 [(0, .ref (q 0))] := hl
  have hP : va_P D vwCl (moW cI q z hi tx pa ke mr hs wr) s.heap := hP
  have hD : va_D A (moW cI q z hi tx pa ke mr hs wr) := hD
  refine lv_iconst (v := 0) hx hb dX6_allThere_0 (by decide) ?_
  refine lv_istore_n (lv' := [(1, .int 0), (0, .ref (q 0))]) hx hb dX6_allThere_1 rfl hl (by decide) rfl (fun ls hl => ?_)
  refine lv_iconst (v := 0) hx hb dX6_allThere_2 (by decide) ?_
  refine lv_istore_n (lv' := [(2, .int 0), (1, .int 0), (0, .ref (q 0))]) hx hb dX6_allThere_3 rfl hl (by decide) rfl (fun ls hl => ?_)
  have K4 : ∀ (n4 i : Nat), i + n4 = n → ∀ (H : Heap) (locs : List Loc), va_P D vwCl (moW cI q z hi tx pa ke mr hs wr) H → va_D A (moW cI q z hi tx pa ke mr hs wr) → va_S A s.heap H locs → ∀ ls : Array Slot, lv_has ls 3 [(0, .ref (q 0)), (1, .int (cntT z i)), (2, .int (nI i))] → W p l e ({ frames := 1, cells := 0, slots := 0, locals := 22 } : Room) s m ([.ref (q 0)] : List Value).toArray below meth c H locs 0 0 (MQ below (zQ D (zT cI cC cM cB cJ) (moW cI q z hi tx pa ke mr hs wr) (some (.int (cntT z n))) A) ([.ref (q 0)] : List Value).toArray s 0 0 A) (F0 m 4 ls []) := by
    intro n4
    induction n4 with
    | zero =>
      intro i h_i H locs hP hD hS ls hl
      have ei : n = i := by omega
      subst ei
      refine lv_iload_n hx hb dX6_allThere_4 rfl (lv_at hl 2 rfl) ?_
      refine lv_aload_n hx hb dX6_allThere_5 rfl (lv_at hl 0 rfl) ?_
      refine va_get (v := .ref (q 1)) hx hb hts inTX6 hown hK hP (0) (mo_0) rfl 0 (by decide) (hts _ qf_X6_7) (fun _ h9 => h9) (rfl) dX6_allThere_6 ?_
      refine lv_iconst (v := 5) hx hb dX6_allThere_9 (by decide) ?_
      refine va_iald hx hb hK hP (1) 0 (mo_1) rfl (vp_in_nI (show 5 < 142 by decide) (by omega)) dX6_allThere_10 ?_
      refine z_top (v2 := .int (nI n)) (congrArg Value.int (((congrArg (zfn z) (z_cl (k := 5) rfl)).trans (zfn_at (by omega))).trans (hz))) ?_
      refine lv_icmp_ge (tgt := 29) hx hb dX6_allThere_11 (by decide) (fun c1 => ?_) (fun c1 => absurd (nI_le (a := n) (b := n) (by omega) (by omega)) c1)
      have c1 := z_nlt c1
      refine lv_iload_n hx hb dX6_allThere_29 rfl (lv_at hl 1 rfl) ?_
      exact z_iret hx hb hr hlocks hP hD hK hS (rfl) (by first | rfl | (simp only [minP, maxP, c1, not_true_eq_false, not_false_eq_true, and_self, and_true, true_and, and_false, false_and, or_true, true_or, or_false, false_or, if_true, if_false, ite_true, ite_false]; done) | (simp [minP, maxP, c1]; done) | (simp_all [minP, maxP]; done)) dX6_allThere_30
    | succ n4 ih4 =>
      intro i h_i H locs hP hD hS ls hl
      have li : i < n := by omega
      refine lv_iload_n hx hb dX6_allThere_4 rfl (lv_at hl 2 rfl) ?_
      refine lv_aload_n hx hb dX6_allThere_5 rfl (lv_at hl 0 rfl) ?_
      refine va_get (v := .ref (q 1)) hx hb hts inTX6 hown hK hP (0) (mo_0) rfl 0 (by decide) (hts _ qf_X6_7) (fun _ h9 => h9) (rfl) dX6_allThere_6 ?_
      refine lv_iconst (v := 5) hx hb dX6_allThere_9 (by decide) ?_
      refine va_iald hx hb hK hP (1) 0 (mo_1) rfl (vp_in_nI (show 5 < 142 by decide) (by omega)) dX6_allThere_10 ?_
      refine z_top (v2 := .int (nI n)) (congrArg Value.int (((congrArg (zfn z) (z_cl (k := 5) rfl)).trans (zfn_at (by omega))).trans (hz))) ?_
      refine lv_icmp_ge (tgt := 29) hx hb dX6_allThere_11 (by decide) (fun c2 => absurd c2 (nI_ge (a := i) (b := n) (by omega) (by omega))) (fun c2 => ?_)
      have c2 := z_lt c2
      refine lv_iload_n hx hb dX6_allThere_14 rfl (lv_at hl 1 rfl) ?_
      refine lv_aload_n hx hb dX6_allThere_15 rfl (lv_at hl 0 rfl) ?_
      refine lv_iload_n hx hb dX6_allThere_16 rfl (lv_at hl 2 rfl) ?_
      refine lv_iconst (v := 0) hx hb dX6_allThere_17 (by decide) ?_
      refine z_callV1 (rest := [.int (cntT z i)]) S (c_X6_of i 0 (14 + 16 * i) (show i < 8 by omega) (show 0 < 16 by decide) (by omega) (z (14 + 16 * i)) (rfl)) qm_X6_36 v_X6_of ⟨Nat.le_of_ble_eq_true rfl, Nat.le_of_ble_eq_true rfl⟩ rfl rfl hN hK hP hD hS hA (0) (mo_0) rfl rfl hl.1 rfl (Nat.le_of_ble_eq_true rfl) dX6_allThere_18 ⟨Nat.le_of_ble_eq_true rfl, Nat.le_of_ble_eq_true rfl⟩ (fun H locs hP hD hS => ?_)
      refine lv_iadd hx hb dX6_allThere_21  ?_
      refine lv_istore_n (lv' := [(1, .int ((cntT z i) + (z (14 + 16 * i)))), (0, .ref (q 0)), (2, .int (nI i))]) hx hb dX6_allThere_22 rfl hl (by decide) rfl (fun ls hl => ?_)
      refine lv_iinc (v := nI (i + 1)) (lv' := [(2, .int (nI (i + 1))), (1, .int ((cntT z i) + (z (14 + 16 * i)))), (0, .ref (q 0))]) hx hb dX6_allThere_23 hl (k := 2) rfl (nI_1 _) (by decide) rfl (fun ls hl => ?_)
      refine lv_goto (tgt := 4) hx hb dX6_allThere_26 (by decide) ?_
      have hl := (congrArg (fun qv_ => lv_has ls 3 [(2, .int (nI (i + 1))), (1, qv_), (0, .ref (q 0))]) (show Value.int ((cntT z i) + (z (14 + 16 * i))) = .int (cntT z (i + 1)) from congrArg Value.int (cntT_s (hB i (by omega)).1))).mp hl
      exact ih4 (i + 1) (by omega) _ _ hP hD hS ls (lv_sub hl [2, 1, 0] rfl)
  have hl := (congrArg (fun qv_ => lv_has ls 3 [(2, .int 0), (1, qv_), (0, .ref (q 0))]) (show Value.int 0 = .int (cntT z 0) from congrArg Value.int (rfl))).mp hl
  have hl := (congrArg (fun qv_ => lv_has ls 3 [(2, qv_), (1, .int (cntT z 0)), (0, .ref (q 0))]) (show Value.int 0 = .int (nI 0) from congrArg Value.int (rfl))).mp hl
  exact K4 n 0 (by omega) _ _ hP hD hS ls (lv_sub hl [2, 1, 0] rfl)
set_option maxHeartbeats 4000000 in
set_option maxRecDepth 100000 in
theorem c_X6_othersOf {n : Nat} (hn : n ≤ 8) (hz : z 5 = nI n) (hB : hBool z) (j : Nat) (hj : j < 8) : zM l D (zT cI cC cM cB cJ) yX6_othersOf cX6_othersOf 2 (some .int) ({ frames := 2, cells := 0, slots := 0, locals := 44 } : Room) [.ref (q 0), .int (nI j)] (moW cI q z hi tx pa ke mr hs wr) (moW cI q z hi tx pa ke mr hs wr) (some (.int (cntT z n - z (14 + 16 * j)))) 0 0 := by
  refine z_enter (by decide) (Nat.le_of_ble_eq_true rfl) ?_
  intro p e s m below meth c A S hr hlocks hnm hN hA hK hP hD hS ls hl
  obtain ⟨hx, hb, hml, hown, hts⟩ := id S
  have hl : lv_has ls 2 [(0, .ref (q 0)), (1, .int (nI j))] := hl
  have hP : va_P D vwCl (moW cI q z hi tx pa ke mr hs wr) s.heap := hP
  have hD : va_D A (moW cI q z hi tx pa ke mr hs wr) := hD
  refine lv_aload_n hx hb dX6_othersOf_0 rfl (lv_at hl 0 rfl) ?_
  refine z_callV1 (rest := []) S (c_X6_allThere (n := n) (show n ≤ 8 by omega) (hz) hB) qm_X6_40 v_X6_allThere ⟨Nat.le_of_ble_eq_true rfl, Nat.le_of_ble_eq_true rfl⟩ rfl rfl hN hK hP hD hS hA (0) (mo_0) rfl rfl hl.1 rfl (Nat.le_of_ble_eq_true rfl) dX6_othersOf_1 ⟨Nat.le_of_ble_eq_true rfl, Nat.le_of_ble_eq_true rfl⟩ (fun H locs hP hD hS => ?_)
  refine lv_aload_n hx hb dX6_othersOf_4 rfl (lv_at hl 0 rfl) ?_
  refine lv_iload_n hx hb dX6_othersOf_5 rfl (lv_at hl 1 rfl) ?_
  refine lv_iconst (v := 0) hx hb dX6_othersOf_6 (by decide) ?_
  refine z_callV1 (rest := [.int (cntT z n)]) S (c_X6_of j 0 (14 + 16 * j) (show j < 8 by omega) (show 0 < 16 by decide) (by omega) (z (14 + 16 * j)) (rfl)) qm_X6_36 v_X6_of ⟨Nat.le_of_ble_eq_true rfl, Nat.le_of_ble_eq_true rfl⟩ rfl rfl hN hK hP hD hS hA (0) (mo_0) rfl rfl hl.1 rfl (Nat.le_of_ble_eq_true rfl) dX6_othersOf_7 ⟨Nat.le_of_ble_eq_true rfl, Nat.le_of_ble_eq_true rfl⟩ (fun H locs hP hD hS => ?_)
  refine lv_isub hx hb dX6_othersOf_10  ?_
  exact z_iret hx hb hr hlocks hP hD hK hS (rfl) (by first | rfl | (simp only [minP, maxP, not_true_eq_false, not_false_eq_true, and_self, and_true, true_and, and_false, false_and, or_true, true_or, or_false, false_or, if_true, if_false, ite_true, ite_false]; done) | (simp [minP, maxP]; done) | (simp_all [minP, maxP]; done)) dX6_othersOf_11
set_option maxHeartbeats 4000000 in
set_option maxRecDepth 100000 in
theorem c_X6_endMotion  : zM l D (zT cI cC cM cB cJ) yX6_endMotion cX6_endMotion 1 none ({ frames := 0, cells := 0, slots := 0, locals := 0 } : Room) [.ref (q 0)] (moW cI q z hi tx pa ke mr hs wr) (moW cI q (endZ z) hi tx pa ke mr hs wr) none 0 0 := by
  refine z_enter (by decide) (Nat.le_of_ble_eq_true rfl) ?_
  intro p e s m below meth c A S hr hlocks hnm hN hA hK hP hD hS ls hl
  obtain ⟨hx, hb, hml, hown, hts⟩ := id S
  have hl : lv_has ls 1 [(0, .ref (q 0))] := hl
  have hP : va_P D vwCl (moW cI q z hi tx pa ke mr hs wr) s.heap := hP
  have hD : va_D A (moW cI q z hi tx pa ke mr hs wr) := hD
  refine lv_aload_n hx hb dX6_endMotion_0 rfl (lv_at hl 0 rfl) ?_
  refine va_get (v := .ref (q 1)) hx hb hts inTX6 hown hK hP (0) (mo_0) rfl 0 (by decide) (hts _ qf_X6_7) (fun _ h9 => h9) (rfl) dX6_endMotion_1 ?_
  refine lv_bipush (v := 10) hx hb dX6_endMotion_4 (by decide) ?_
  refine lv_iconst (v := (-1)) hx hb dX6_endMotion_6 (by decide) ?_
  refine z_iast (ws2 := moW cI q (upd z 10 (-1)) hi tx pa ke mr hs wr) hx hb hK hP hD hS (1) 0 (mo_1) rfl (vp_in_nI (show 10 < 142 by decide) (by omega)) dX6_endMotion_7 (mo_w1 (z_cl (k := 10) rfl) (by omega)) (fun H locs hP hD hS => ?_)
  refine lv_aload_n hx hb dX6_endMotion_8 rfl (lv_at hl 0 rfl) ?_
  refine va_get (v := .ref (q 1)) hx hb hts inTX6 hown hK hP (0) (mo_0) rfl 0 (by decide) (hts _ qf_X6_7) (fun _ h9 => h9) (rfl) dX6_endMotion_9 ?_
  refine lv_bipush (v := 11) hx hb dX6_endMotion_12 (by decide) ?_
  refine lv_iconst (v := 0) hx hb dX6_endMotion_14 (by decide) ?_
  refine z_iast (ws2 := moW cI q (upd (upd z 10 (-1)) 11 0) hi tx pa ke mr hs wr) hx hb hK hP hD hS (1) 0 (mo_1) rfl (vp_in_nI (show 11 < 142 by decide) (by omega)) dX6_endMotion_15 (mo_w1 (z_cl (k := 11) rfl) (by omega)) (fun H locs hP hD hS => ?_)
  refine lv_aload_n hx hb dX6_endMotion_16 rfl (lv_at hl 0 rfl) ?_
  refine va_get (v := .ref (q 1)) hx hb hts inTX6 hown hK hP (0) (mo_0) rfl 0 (by decide) (hts _ qf_X6_7) (fun _ h9 => h9) (rfl) dX6_endMotion_17 ?_
  refine lv_bipush (v := 12) hx hb dX6_endMotion_20 (by decide) ?_
  refine lv_iconst (v := 0) hx hb dX6_endMotion_22 (by decide) ?_
  refine z_iast (ws2 := moW cI q (upd (upd (upd z 10 (-1)) 11 0) 12 0) hi tx pa ke mr hs wr) hx hb hK hP hD hS (1) 0 (mo_1) rfl (vp_in_nI (show 12 < 142 by decide) (by omega)) dX6_endMotion_23 (mo_w1 (z_cl (k := 12) rfl) (by omega)) (fun H locs hP hD hS => ?_)
  refine lv_aload_n hx hb dX6_endMotion_24 rfl (lv_at hl 0 rfl) ?_
  refine va_get (v := .ref (q 1)) hx hb hts inTX6 hown hK hP (0) (mo_0) rfl 0 (by decide) (hts _ qf_X6_7) (fun _ h9 => h9) (rfl) dX6_endMotion_25 ?_
  refine lv_bipush (v := 13) hx hb dX6_endMotion_28 (by decide) ?_
  refine lv_iconst (v := 0) hx hb dX6_endMotion_30 (by decide) ?_
  refine z_iast (ws2 := moW cI q (upd (upd (upd (upd z 10 (-1)) 11 0) 12 0) 13 0) hi tx pa ke mr hs wr) hx hb hK hP hD hS (1) 0 (mo_1) rfl (vp_in_nI (show 13 < 142 by decide) (by omega)) dX6_endMotion_31 (mo_w1 (z_cl (k := 13) rfl) (by omega)) (fun H locs hP hD hS => ?_)
  exact z_vret hx hb hr hlocks hP hD hK hS (by first | rfl | (simp only [endZ, minP, maxP, not_true_eq_false, not_false_eq_true, and_self, and_true, true_and, and_false, false_and, or_true, true_or, or_false, false_or, if_true, if_false, ite_true, ite_false]; done) | (simp [endZ, minP, maxP]; done) | (simp_all [endZ, minP, maxP]; done)) (rfl) dX6_endMotion_32
set_option maxHeartbeats 4000000 in
set_option maxRecDepth 100000 in
theorem c_X6_lookAt {n : Nat} (hn : n ≤ 8) (hz : z 5 = nI n) (hB : hBool z) {d : Nat} (hd : d < n) (hz2 : z 10 = nI d) : zM l D (zT cI cC cM cB cJ) yX6_lookAt cX6_lookAt 3 (some .int) ({ frames := 3, cells := 0, slots := 0, locals := 65 } : Room) [.ref (q 0)] (moW cI q z hi tx pa ke mr hs wr) (moW cI q (lkZ z n d) hi tx pa ke mr hs wr) (some (.int (lkR z n d))) 0 0 := by
  refine z_enter (by decide) (Nat.le_of_ble_eq_true rfl) ?_
  intro p e s m below meth c A S hr hlocks hnm hN hA hK hP hD hS ls hl
  obtain ⟨hx, hb, hml, hown, hts⟩ := id S
  have hl : lv_has ls 3 [(0, .ref (q 0))] := hl
  have hP : va_P D vwCl (moW cI q z hi tx pa ke mr hs wr) s.heap := hP
  have hD : va_D A (moW cI q z hi tx pa ke mr hs wr) := hD
  refine lv_aload_n hx hb dX6_lookAt_0 rfl (lv_at hl 0 rfl) ?_
  refine va_get (v := .ref (q 1)) hx hb hts inTX6 hown hK hP (0) (mo_0) rfl 0 (by decide) (hts _ qf_X6_7) (fun _ h9 => h9) (rfl) dX6_lookAt_1 ?_
  refine lv_bipush (v := 10) hx hb dX6_lookAt_4 (by decide) ?_
  refine va_iald hx hb hK hP (1) 0 (mo_1) rfl (vp_in_nI (show 10 < 142 by decide) (by omega)) dX6_lookAt_6 ?_
  refine z_top (v2 := .int (nI d)) (congrArg Value.int (((congrArg (zfn z) (z_cl (k := 10) rfl)).trans (zfn_at (by omega))).trans (hz2))) ?_
  refine lv_istore_n (lv' := [(1, .int (nI d)), (0, .ref (q 0))]) hx hb dX6_lookAt_7 rfl hl (by decide) rfl (fun ls hl => ?_)
  refine lv_aload_n hx hb dX6_lookAt_8 rfl (lv_at hl 1 rfl) ?_
  refine lv_iload_n hx hb dX6_lookAt_9 rfl (lv_at hl 0 rfl) ?_
  refine z_callV1 (rest := []) S (c_X6_othersOf (n := n) (show n ≤ 8 by omega) (hz) hB d (show d < 8 by omega)) qm_X6_44 v_X6_othersOf ⟨Nat.le_of_ble_eq_true rfl, Nat.le_of_ble_eq_true rfl⟩ rfl rfl hN hK hP hD hS hA (0) (mo_0) rfl rfl hl.1 rfl (Nat.le_of_ble_eq_true rfl) dX6_lookAt_10 ⟨Nat.le_of_ble_eq_true rfl, Nat.le_of_ble_eq_true rfl⟩ (fun H locs hP hD hS => ?_)
  refine lv_istore_n (lv' := [(2, .int (cntT z n - z (14 + 16 * d))), (1, .int (nI d)), (0, .ref (q 0))]) hx hb dX6_lookAt_13 rfl hl (by decide) rfl (fun ls hl => ?_)
  refine lv_iload_n hx hb dX6_lookAt_14 rfl (lv_at hl 0 rfl) ?_
  refine lv_if_le (tgt := 84) hx hb dX6_lookAt_15 (by decide) (fun c1 => ?_) (fun c1 => ?_)
  · have c1 := z_nlt c1
    refine lv_iload_n hx hb dX6_lookAt_84 rfl (lv_at hl 0 rfl) ?_
    refine lv_if_le (tgt := 110) hx hb dX6_lookAt_85 (by decide) (fun c2 => ?_) (fun c2 => absurd (z_le c1) c2)
    have c2 := z_nlt c2
    refine lv_iconst (v := 0) hx hb dX6_lookAt_110 (by decide) ?_
    exact z_iret hx hb hr hlocks hP hD hK hS (by first | rfl | (simp only [lkZ, lkR, minP, maxP, c1, c2, not_true_eq_false, not_false_eq_true, and_self, and_true, true_and, and_false, false_and, or_true, true_or, or_false, false_or, if_true, if_false, ite_true, ite_false]; done) | (simp [lkZ, lkR, minP, maxP, c1, c2]; done) | (simp_all [lkZ, lkR, minP, maxP]; done)) (by first | rfl | (simp only [lkZ, lkR, minP, maxP, c1, c2, not_true_eq_false, not_false_eq_true, and_self, and_true, true_and, and_false, false_and, or_true, true_or, or_false, false_or, if_true, if_false, ite_true, ite_false]; done) | (simp [lkZ, lkR, minP, maxP, c1, c2]; done) | (simp_all [lkZ, lkR, minP, maxP]; done)) dX6_lookAt_111
  · have c1 := z_lt c1
    refine lv_iconst (v := 2) hx hb dX6_lookAt_18 (by decide) ?_
    refine lv_aload_n hx hb dX6_lookAt_19 rfl (lv_at hl 2 rfl) ?_
    refine va_get (v := .ref (q 1)) hx hb hts inTX6 hown hK hP (0) (mo_0) rfl 0 (by decide) (hts _ qf_X6_7) (fun _ h9 => h9) (rfl) dX6_lookAt_20 ?_
    refine lv_bipush (v := 12) hx hb dX6_lookAt_23 (by decide) ?_
    refine va_iald hx hb hK hP (1) 0 (mo_1) rfl (vp_in_nI (show 12 < 142 by decide) (by omega)) dX6_lookAt_25 ?_
    refine z_top (v2 := .int (z 12)) (congrArg Value.int (((congrArg (zfn z) (z_cl (k := 12) rfl)).trans (zfn_at (by omega))).trans (rfl))) ?_
    refine z_callS1 (rest := [.int 2]) S (c_X6_ones (z 12)) qm_X6_48 t_X6_ones ⟨Nat.le_of_ble_eq_true rfl, Nat.le_of_ble_eq_true rfl⟩ rfl rfl hN hK hP hD hS hA rfl hl.1 rfl (Nat.le_of_ble_eq_true rfl) dX6_lookAt_26 ⟨Nat.le_of_ble_eq_true rfl, Nat.le_of_ble_eq_true rfl⟩ (fun H locs hP hD hS => ?_)
    refine lv_imul hx hb dX6_lookAt_29  ?_
    refine lv_iload_n hx hb dX6_lookAt_30 rfl (lv_at hl 0 rfl) ?_
    refine lv_icmp_le (tgt := 84) hx hb dX6_lookAt_31 (by decide) (fun c3 => ?_) (fun c3 => ?_)
    · have c3 := z_nlt c3
      refine lv_iload_n hx hb dX6_lookAt_84 rfl (lv_at hl 0 rfl) ?_
      refine lv_if_le (tgt := 110) hx hb dX6_lookAt_85 (by decide) (fun c4 => absurd c4 (z_nle c1)) (fun c4 => ?_)
      have c4 := z_lt c4
      refine lv_iconst (v := 2) hx hb dX6_lookAt_88 (by decide) ?_
      refine lv_aload_n hx hb dX6_lookAt_89 rfl (lv_at hl 2 rfl) ?_
      refine va_get (v := .ref (q 1)) hx hb hts inTX6 hown hK hP (0) (mo_0) rfl 0 (by decide) (hts _ qf_X6_7) (fun _ h9 => h9) (rfl) dX6_lookAt_90 ?_
      refine lv_bipush (v := 13) hx hb dX6_lookAt_93 (by decide) ?_
      refine va_iald hx hb hK hP (1) 0 (mo_1) rfl (vp_in_nI (show 13 < 142 by decide) (by omega)) dX6_lookAt_95 ?_
      refine z_top (v2 := .int (z 13)) (congrArg Value.int (((congrArg (zfn z) (z_cl (k := 13) rfl)).trans (zfn_at (by omega))).trans (rfl))) ?_
      refine z_callS1 (rest := [.int 2]) S (c_X6_ones (z 13)) qm_X6_48 t_X6_ones ⟨Nat.le_of_ble_eq_true rfl, Nat.le_of_ble_eq_true rfl⟩ rfl rfl hN hK hP hD hS hA rfl hl.1 rfl (Nat.le_of_ble_eq_true rfl) dX6_lookAt_96 ⟨Nat.le_of_ble_eq_true rfl, Nat.le_of_ble_eq_true rfl⟩ (fun H locs hP hD hS => ?_)
      refine lv_imul hx hb dX6_lookAt_99  ?_
      refine lv_iload_n hx hb dX6_lookAt_100 rfl (lv_at hl 0 rfl) ?_
      refine lv_icmp_lt (tgt := 110) hx hb dX6_lookAt_101 (by decide) (fun c5 => ?_) (fun c5 => ?_)
      · skip
        refine lv_iconst (v := 0) hx hb dX6_lookAt_110 (by decide) ?_
        exact z_iret hx hb hr hlocks hP hD hK hS (by first | rfl | (simp only [lkZ, lkR, minP, maxP, c1, c3, c4, c5, not_true_eq_false, not_false_eq_true, and_self, and_true, true_and, and_false, false_and, or_true, true_or, or_false, false_or, if_true, if_false, ite_true, ite_false]; done) | (simp [lkZ, lkR, minP, maxP, c1, c3, c4, c5]; done) | (simp_all [lkZ, lkR, minP, maxP]; done)) (by first | rfl | (simp only [lkZ, lkR, minP, maxP, c1, c3, c4, c5, not_true_eq_false, not_false_eq_true, and_self, and_true, true_and, and_false, false_and, or_true, true_or, or_false, false_or, if_true, if_false, ite_true, ite_false]; done) | (simp [lkZ, lkR, minP, maxP, c1, c3, c4, c5]; done) | (simp_all [lkZ, lkR, minP, maxP]; done)) dX6_lookAt_111
      · skip
        refine lv_aload_n hx hb dX6_lookAt_104 rfl (lv_at hl 2 rfl) ?_
        refine z_callV0 (rest := []) S (c_X6_endMotion ) qm_X6_55 v_X6_endMotion ⟨Nat.le_of_ble_eq_true rfl, Nat.le_of_ble_eq_true rfl⟩ rfl rfl hN hK hP hD hS hA (0) (mo_0) rfl rfl hl.1 rfl (Nat.le_of_ble_eq_true rfl) dX6_lookAt_105 ⟨Nat.le_of_ble_eq_true rfl, Nat.le_of_ble_eq_true rfl⟩ (fun H locs hP hD hS => ?_)
        refine lv_iconst (v := 2) hx hb dX6_lookAt_108 (by decide) ?_
        exact z_iret hx hb hr hlocks hP hD hK hS (by first | rfl | (simp only [lkZ, lkR, minP, maxP, c1, c3, c4, c5, not_true_eq_false, not_false_eq_true, and_self, and_true, true_and, and_false, false_and, or_true, true_or, or_false, false_or, if_true, if_false, ite_true, ite_false]; done) | (simp [lkZ, lkR, minP, maxP, c1, c3, c4, c5]; done) | (simp_all [lkZ, lkR, minP, maxP]; done)) (by first | rfl | (simp only [lkZ, lkR, minP, maxP, c1, c3, c4, c5, not_true_eq_false, not_false_eq_true, and_self, and_true, true_and, and_false, false_and, or_true, true_or, or_false, false_or, if_true, if_false, ite_true, ite_false]; done) | (simp [lkZ, lkR, minP, maxP, c1, c3, c4, c5]; done) | (simp_all [lkZ, lkR, minP, maxP]; done)) dX6_lookAt_109
    · have c3 := z_lt c3
      refine lv_aload_n hx hb dX6_lookAt_34 rfl (lv_at hl 2 rfl) ?_
      refine lv_iload_n hx hb dX6_lookAt_35 rfl (lv_at hl 1 rfl) ?_
      refine lv_iconst (v := 1) hx hb dX6_lookAt_36 (by decide) ?_
      refine lv_aload_n hx hb dX6_lookAt_37 rfl (lv_at hl 2 rfl) ?_
      refine va_get (v := .ref (q 1)) hx hb hts inTX6 hown hK hP (0) (mo_0) rfl 0 (by decide) (hts _ qf_X6_7) (fun _ h9 => h9) (rfl) dX6_lookAt_38 ?_
      refine lv_bipush (v := 11) hx hb dX6_lookAt_41 (by decide) ?_
      refine va_iald hx hb hK hP (1) 0 (mo_1) rfl (vp_in_nI (show 11 < 142 by decide) (by omega)) dX6_lookAt_43 ?_
      refine z_top (v2 := .int (z 11)) (congrArg Value.int (((congrArg (zfn z) (z_cl (k := 11) rfl)).trans (zfn_at (by omega))).trans (rfl))) ?_
      refine z_callV0 (rest := []) S (c_X6_add d 1 (14 + 16 * d + 1) (show d < 8 by omega) (show 1 < 16 by decide) (by omega) (z 11) (z (14 + 16 * d + 1)) (rfl)) qm_X6_51 v_X6_add ⟨Nat.le_of_ble_eq_true rfl, Nat.le_of_ble_eq_true rfl⟩ rfl rfl hN hK hP hD hS hA (0) (mo_0) rfl rfl hl.1 rfl (Nat.le_of_ble_eq_true rfl) dX6_lookAt_44 ⟨Nat.le_of_ble_eq_true rfl, Nat.le_of_ble_eq_true rfl⟩ (fun H locs hP hD hS => ?_)
      refine lv_aload_n hx hb dX6_lookAt_47 rfl (lv_at hl 2 rfl) ?_
      refine lv_iload_n hx hb dX6_lookAt_48 rfl (lv_at hl 1 rfl) ?_
      refine lv_bipush (v := 10) hx hb dX6_lookAt_49 (by decide) ?_
      refine lv_aload_n hx hb dX6_lookAt_51 rfl (lv_at hl 2 rfl) ?_
      refine va_get (v := .ref (q 1)) hx hb hts inTX6 hown hK hP (0) (mo_0) rfl 0 (by decide) (hts _ qf_X6_7) (fun _ h9 => h9) (rfl) dX6_lookAt_52 ?_
      refine lv_bipush (v := 11) hx hb dX6_lookAt_55 (by decide) ?_
      refine va_iald hx hb hK hP (1) 0 (mo_1) rfl (vp_in_nI (show 11 < 142 by decide) (by omega)) dX6_lookAt_57 ?_
      refine z_top (v2 := .int (z 11)) (congrArg Value.int (((congrArg (zfn (upd z (14 + 16 * d + 1) ((z (14 + 16 * d + 1)) + (z 11)))) (z_cl (k := 11) rfl)).trans (zfn_at (by omega))).trans ((upd_ne (by omega)).trans (rfl)))) ?_
      refine z_callV0 (rest := []) S (c_X6_add d 10 (14 + 16 * d + 10) (show d < 8 by omega) (show 10 < 16 by decide) (by omega) (z 11) (z (14 + 16 * d + 10)) ((upd_ne (by omega)).trans (rfl))) qm_X6_51 v_X6_add ⟨Nat.le_of_ble_eq_true rfl, Nat.le_of_ble_eq_true rfl⟩ rfl rfl hN hK hP hD hS hA (0) (mo_0) rfl rfl hl.1 rfl (Nat.le_of_ble_eq_true rfl) dX6_lookAt_58 ⟨Nat.le_of_ble_eq_true rfl, Nat.le_of_ble_eq_true rfl⟩ (fun H locs hP hD hS => ?_)
      refine lv_aload_n hx hb dX6_lookAt_61 rfl (lv_at hl 2 rfl) ?_
      refine va_get (v := .ref (q 1)) hx hb hts inTX6 hown hK hP (0) (mo_0) rfl 0 (by decide) (hts _ qf_X6_7) (fun _ h9 => h9) (rfl) dX6_lookAt_62 ?_
      refine lv_bipush (v := 7) hx hb dX6_lookAt_65 (by decide) ?_
      refine lv_dup2_11 hx hb dX6_lookAt_67 rfl rfl ?_
      refine va_iald hx hb hK hP (1) 0 (mo_1) rfl (vp_in_nI (show 7 < 142 by decide) (by omega)) dX6_lookAt_68 ?_
      refine z_top (v2 := .int (z 7)) (congrArg Value.int (((congrArg (zfn (upd (upd z (14 + 16 * d + 1) ((z (14 + 16 * d + 1)) + (z 11))) (14 + 16 * d + 10) ((z (14 + 16 * d + 10)) + (z 11)))) (z_cl (k := 7) rfl)).trans (zfn_at (by omega))).trans ((upd_ne (by omega)).trans ((upd_ne (by omega)).trans (rfl))))) ?_
      refine lv_aload_n hx hb dX6_lookAt_69 rfl (lv_at hl 2 rfl) ?_
      refine va_get (v := .ref (q 1)) hx hb hts inTX6 hown hK hP (0) (mo_0) rfl 0 (by decide) (hts _ qf_X6_7) (fun _ h9 => h9) (rfl) dX6_lookAt_70 ?_
      refine lv_bipush (v := 11) hx hb dX6_lookAt_73 (by decide) ?_
      refine va_iald hx hb hK hP (1) 0 (mo_1) rfl (vp_in_nI (show 11 < 142 by decide) (by omega)) dX6_lookAt_75 ?_
      refine z_top (v2 := .int (z 11)) (congrArg Value.int (((congrArg (zfn (upd (upd z (14 + 16 * d + 1) ((z (14 + 16 * d + 1)) + (z 11))) (14 + 16 * d + 10) ((z (14 + 16 * d + 10)) + (z 11)))) (z_cl (k := 11) rfl)).trans (zfn_at (by omega))).trans ((upd_ne (by omega)).trans ((upd_ne (by omega)).trans (rfl))))) ?_
      refine lv_iadd hx hb dX6_lookAt_76  ?_
      refine z_iast (ws2 := moW cI q (upd (upd (upd z (14 + 16 * d + 1) ((z (14 + 16 * d + 1)) + (z 11))) (14 + 16 * d + 10) ((z (14 + 16 * d + 10)) + (z 11))) 7 ((z 7) + (z 11))) hi tx pa ke mr hs wr) hx hb hK hP hD hS (1) 0 (mo_1) rfl (vp_in_nI (show 7 < 142 by decide) (by omega)) dX6_lookAt_77 (mo_w1 (z_cl (k := 7) rfl) (by omega)) (fun H locs hP hD hS => ?_)
      refine lv_aload_n hx hb dX6_lookAt_78 rfl (lv_at hl 2 rfl) ?_
      refine z_callV0 (rest := []) S (c_X6_endMotion ) qm_X6_55 v_X6_endMotion ⟨Nat.le_of_ble_eq_true rfl, Nat.le_of_ble_eq_true rfl⟩ rfl rfl hN hK hP hD hS hA (0) (mo_0) rfl rfl hl.1 rfl (Nat.le_of_ble_eq_true rfl) dX6_lookAt_79 ⟨Nat.le_of_ble_eq_true rfl, Nat.le_of_ble_eq_true rfl⟩ (fun H locs hP hD hS => ?_)
      refine lv_iconst (v := 1) hx hb dX6_lookAt_82 (by decide) ?_
      exact z_iret hx hb hr hlocks hP hD hK hS (by first | rfl | (simp only [lkZ, lkR, minP, maxP, c1, c3, not_true_eq_false, not_false_eq_true, and_self, and_true, true_and, and_false, false_and, or_true, true_or, or_false, false_or, if_true, if_false, ite_true, ite_false]; done) | (simp [lkZ, lkR, minP, maxP, c1, c3]; done) | (simp_all [lkZ, lkR, minP, maxP]; done)) (by first | rfl | (simp only [lkZ, lkR, minP, maxP, c1, c3, not_true_eq_false, not_false_eq_true, and_self, and_true, true_and, and_false, false_and, or_true, true_or, or_false, false_or, if_true, if_false, ite_true, ite_false]; done) | (simp [lkZ, lkR, minP, maxP, c1, c3]; done) | (simp_all [lkZ, lkR, minP, maxP]; done)) dX6_lookAt_83
set_option maxHeartbeats 4000000 in
set_option maxRecDepth 100000 in
theorem c_X6_ripenessOf (j k : Nat) (hj : j < 8) (hk : k < 5) : zM l D (zT cI cC cM cB cJ) yX6_ripenessOf cX6_ripenessOf 4 (some .int) ({ frames := 1, cells := 0, slots := 0, locals := 22 } : Room) [.ref (q 0), .int (nI j), .int (nI k)] (moW cI q z hi tx pa ke mr hs wr) (moW cI q z hi tx pa ke mr hs wr) (some (.int (ripeP (z (25 + 16 * j + k))))) 0 0 := by
  refine z_enter (by decide) (Nat.le_of_ble_eq_true rfl) ?_
  intro p e s m below meth c A S hr hlocks hnm hN hA hK hP hD hS ls hl
  obtain ⟨hx, hb, hml, hown, hts⟩ := id S
  have hl : lv_has ls 4 [(0, .ref (q 0)), (1, .int (nI j)), (2, .int (nI k))] := hl
  have hP : va_P D vwCl (moW cI q z hi tx pa ke mr hs wr) s.heap := hP
  have hD : va_D A (moW cI q z hi tx pa ke mr hs wr) := hD
  refine lv_aload_n hx hb dX6_ripenessOf_0 rfl (lv_at hl 0 rfl) ?_
  refine lv_iload_n hx hb dX6_ripenessOf_1 rfl (lv_at hl 1 rfl) ?_
  refine lv_bipush (v := 11) hx hb dX6_ripenessOf_2 (by decide) ?_
  refine lv_iload_n hx hb dX6_ripenessOf_4 rfl (lv_at hl 2 rfl) ?_
  refine lv_iadd hx hb dX6_ripenessOf_5  ?_
  refine z_top (v2 := .int (nI (11 + k))) (congrArg Value.int (nI_add 11 k)) ?_
  refine z_callV1 (rest := []) S (c_X6_of j (11 + k) (25 + 16 * j + k) (show j < 8 by omega) (show 11 + k < 16 by omega) (by omega) (z (25 + 16 * j + k)) (rfl)) qm_X6_36 v_X6_of ⟨Nat.le_of_ble_eq_true rfl, Nat.le_of_ble_eq_true rfl⟩ rfl rfl hN hK hP hD hS hA (0) (mo_0) rfl rfl hl.1 rfl (Nat.le_of_ble_eq_true rfl) dX6_ripenessOf_6 ⟨Nat.le_of_ble_eq_true rfl, Nat.le_of_ble_eq_true rfl⟩ (fun H locs hP hD hS => ?_)
  refine lv_sipush (v := 300) hx hb dX6_ripenessOf_9 (by decide) ?_
  refine lv_idiv hx hb dX6_ripenessOf_12 (by decide) ?_
  refine lv_istore_n (lv' := [(3, .int ((z (25 + 16 * j + k)) / 300)), (0, .ref (q 0)), (1, .int (nI j)), (2, .int (nI k))]) hx hb dX6_ripenessOf_13 rfl hl (by decide) rfl (fun ls hl => ?_)
  refine lv_iload_n hx hb dX6_ripenessOf_14 rfl (lv_at hl 0 rfl) ?_
  refine lv_bipush (v := 9) hx hb dX6_ripenessOf_15 (by decide) ?_
  refine lv_icmp_le (tgt := 25) hx hb dX6_ripenessOf_17 (by decide) (fun c1 => ?_) (fun c1 => ?_)
  · have c1 := z_nlt c1
    refine lv_iload_n hx hb dX6_ripenessOf_25 rfl (lv_at hl 0 rfl) ?_
    exact z_iret hx hb hr hlocks hP hD hK hS (rfl) (by first | rfl | (simp only [ripeP, minP, maxP, c1, not_true_eq_false, not_false_eq_true, and_self, and_true, true_and, and_false, false_and, or_true, true_or, or_false, false_or, if_true, if_false, ite_true, ite_false]; done) | (simp [ripeP, minP, maxP, c1]; done) | (simp_all [ripeP, minP, maxP]; done)) dX6_ripenessOf_26
  · have c1 := z_lt c1
    refine lv_bipush (v := 9) hx hb dX6_ripenessOf_20 (by decide) ?_
    refine lv_goto (tgt := 26) hx hb dX6_ripenessOf_22 (by decide) ?_
    exact z_iret hx hb hr hlocks hP hD hK hS (rfl) (by first | rfl | (simp only [ripeP, minP, maxP, c1, not_true_eq_false, not_false_eq_true, and_self, and_true, true_and, and_false, false_and, or_true, true_or, or_false, false_or, if_true, if_false, ite_true, ite_false]; done) | (simp [ripeP, minP, maxP, c1]; done) | (simp_all [ripeP, minP, maxP]; done)) dX6_ripenessOf_26
set_option maxHeartbeats 4000000 in
set_option maxRecDepth 100000 in
theorem c_X6_valueOf (j k : Nat) (hj : j < 8) (hk : k < 5) (mn : Int32) : zM l D (zT cI cC cM cB cJ) yX6_valueOf cX6_valueOf 4 (some .int) ({ frames := 2, cells := 0, slots := 0, locals := 45 } : Room) [.ref (q 0), .int (nI j), .int (nI k), .int mn] (moW cI q z hi tx pa ke mr hs wr) (moW cI q z hi tx pa ke mr hs wr) (some (.int (valP (z (25 + 16 * j + k)) mn))) 0 0 := by
  refine z_enter (by decide) (Nat.le_of_ble_eq_true rfl) ?_
  intro p e s m below meth c A S hr hlocks hnm hN hA hK hP hD hS ls hl
  obtain ⟨hx, hb, hml, hown, hts⟩ := id S
  have hl : lv_has ls 4 [(0, .ref (q 0)), (1, .int (nI j)), (2, .int (nI k)), (3, .int mn)] := hl
  have hP : va_P D vwCl (moW cI q z hi tx pa ke mr hs wr) s.heap := hP
  have hD : va_D A (moW cI q z hi tx pa ke mr hs wr) := hD
  refine lv_iload_n hx hb dX6_valueOf_0 rfl (lv_at hl 3 rfl) ?_
  refine lv_bipush (v := 10) hx hb dX6_valueOf_1 (by decide) ?_
  refine lv_aload_n hx hb dX6_valueOf_3 rfl (lv_at hl 0 rfl) ?_
  refine lv_iload_n hx hb dX6_valueOf_4 rfl (lv_at hl 1 rfl) ?_
  refine lv_iload_n hx hb dX6_valueOf_5 rfl (lv_at hl 2 rfl) ?_
  refine z_callV1 (rest := [.int 10, .int mn]) S (c_X6_ripenessOf j k (show j < 8 by omega) (show k < 5 by omega)) qm_X6_74 v_X6_ripenessOf ⟨Nat.le_of_ble_eq_true rfl, Nat.le_of_ble_eq_true rfl⟩ rfl rfl hN hK hP hD hS hA (0) (mo_0) rfl rfl hl.1 rfl (Nat.le_of_ble_eq_true rfl) dX6_valueOf_6 ⟨Nat.le_of_ble_eq_true rfl, Nat.le_of_ble_eq_true rfl⟩ (fun H locs hP hD hS => ?_)
  refine lv_iadd hx hb dX6_valueOf_9  ?_
  refine lv_imul hx hb dX6_valueOf_10  ?_
  refine lv_bipush (v := 10) hx hb dX6_valueOf_11 (by decide) ?_
  refine lv_idiv hx hb dX6_valueOf_13 (by decide) ?_
  exact z_iret hx hb hr hlocks hP hD hK hS (rfl) (by first | rfl | (simp only [minP, maxP, not_true_eq_false, not_false_eq_true, and_self, and_true, true_and, and_false, false_and, or_true, true_or, or_false, false_or, if_true, if_false, ite_true, ite_false]; done) | (simp [minP, maxP]; done) | (simp_all [minP, maxP]; done)) dX6_valueOf_14
set_option maxHeartbeats 4000000 in
set_option maxRecDepth 100000 in
theorem c_X6_canPay (j : Nat) (hj : j < 8) (v : Int32) : zM l D (zT cI cC cM cB cJ) yX6_canPay cX6_canPay 3 (some .boolean) ({ frames := 1, cells := 0, slots := 0, locals := 22 } : Room) [.ref (q 0), .int (nI j), .int v] (moW cI q z hi tx pa ke mr hs wr) (moW cI q z hi tx pa ke mr hs wr) (some (.int (bI (¬ (z (14 + 16 * j + 1) - v < -(z 0)))))) 0 0 := by
  refine z_enter (by decide) (Nat.le_of_ble_eq_true rfl) ?_
  intro p e s m below meth c A S hr hlocks hnm hN hA hK hP hD hS ls hl
  obtain ⟨hx, hb, hml, hown, hts⟩ := id S
  have hl : lv_has ls 3 [(0, .ref (q 0)), (1, .int (nI j)), (2, .int v)] := hl
  have hP : va_P D vwCl (moW cI q z hi tx pa ke mr hs wr) s.heap := hP
  have hD : va_D A (moW cI q z hi tx pa ke mr hs wr) := hD
  refine lv_aload_n hx hb dX6_canPay_0 rfl (lv_at hl 0 rfl) ?_
  refine lv_iload_n hx hb dX6_canPay_1 rfl (lv_at hl 1 rfl) ?_
  refine lv_iconst (v := 1) hx hb dX6_canPay_2 (by decide) ?_
  refine z_callV1 (rest := []) S (c_X6_of j 1 (14 + 16 * j + 1) (show j < 8 by omega) (show 1 < 16 by decide) (by omega) (z (14 + 16 * j + 1)) (rfl)) qm_X6_36 v_X6_of ⟨Nat.le_of_ble_eq_true rfl, Nat.le_of_ble_eq_true rfl⟩ rfl rfl hN hK hP hD hS hA (0) (mo_0) rfl rfl hl.1 rfl (Nat.le_of_ble_eq_true rfl) dX6_canPay_3 ⟨Nat.le_of_ble_eq_true rfl, Nat.le_of_ble_eq_true rfl⟩ (fun H locs hP hD hS => ?_)
  refine lv_iload_n hx hb dX6_canPay_6 rfl (lv_at hl 2 rfl) ?_
  refine lv_isub hx hb dX6_canPay_7  ?_
  refine lv_aload_n hx hb dX6_canPay_8 rfl (lv_at hl 0 rfl) ?_
  refine va_get (v := .ref (q 1)) hx hb hts inTX6 hown hK hP (0) (mo_0) rfl 0 (by decide) (hts _ qf_X6_7) (fun _ h9 => h9) (rfl) dX6_canPay_9 ?_
  refine lv_iconst (v := 0) hx hb dX6_canPay_12 (by decide) ?_
  refine va_iald hx hb hK hP (1) 0 (mo_1) rfl (vp_in_nI (show 0 < 142 by decide) (by omega)) dX6_canPay_13 ?_
  refine z_top (v2 := .int (z 0)) (congrArg Value.int (((congrArg (zfn z) (z_cl (k := 0) rfl)).trans (zfn_at (by omega))).trans (rfl))) ?_
  refine lv_ineg hx hb dX6_canPay_14 ?_
  refine lv_icmp_lt (tgt := 22) hx hb dX6_canPay_15 (by decide) (fun c1 => ?_) (fun c1 => ?_)
  · skip
    refine lv_iconst (v := 0) hx hb dX6_canPay_22 (by decide) ?_
    exact z_zret hx hb hr hlocks hP hD hK hS (rfl) (by first | rfl | (simp only [bI, minP, maxP, c1, not_true_eq_false, not_false_eq_true, and_self, and_true, true_and, and_false, false_and, or_true, true_or, or_false, false_or, if_true, if_false, ite_true, ite_false]; done) | (simp [bI, minP, maxP, c1]; done) | (simp_all [bI, minP, maxP]; done)) rfl dX6_canPay_23
  · skip
    refine lv_iconst (v := 1) hx hb dX6_canPay_18 (by decide) ?_
    refine lv_goto (tgt := 23) hx hb dX6_canPay_19 (by decide) ?_
    exact z_zret hx hb hr hlocks hP hD hK hS (rfl) (by first | rfl | (simp only [bI, minP, maxP, c1, not_true_eq_false, not_false_eq_true, and_self, and_true, true_and, and_false, false_and, or_true, true_or, or_false, false_or, if_true, if_false, ite_true, ite_false]; done) | (simp [bI, minP, maxP, c1]; done) | (simp_all [bI, minP, maxP]; done)) rfl dX6_canPay_23
set_option maxHeartbeats 4000000 in
set_option maxRecDepth 100000 in
theorem c_X6_canDeal (hB : hBool z) (g t k : Nat) (hg : g < 8) (ht : t < 8) (hk : k < 5) (mn : Int32) : zM l D (zT cI cC cM cB cJ) yX6_canDeal cX6_canDeal 5 (some .boolean) ({ frames := 3, cells := 0, slots := 0, locals := 68 } : Room) [.ref (q 0), .int (nI g), .int (nI t), .int (nI k), .int mn] (moW cI q z hi tx pa ke mr hs wr) (moW cI q z hi tx pa ke mr hs wr) (some (.int (bI (cdP z g t k mn)))) 0 0 := by
  refine z_enter (by decide) (Nat.le_of_ble_eq_true rfl) ?_
  intro p e s m below meth c A S hr hlocks hnm hN hA hK hP hD hS ls hl
  obtain ⟨hx, hb, hml, hown, hts⟩ := id S
  have hl : lv_has ls 5 [(0, .ref (q 0)), (1, .int (nI g)), (2, .int (nI t)), (3, .int (nI k)), (4, .int mn)] := hl
  have hP : va_P D vwCl (moW cI q z hi tx pa ke mr hs wr) s.heap := hP
  have hD : va_D A (moW cI q z hi tx pa ke mr hs wr) := hD
  refine lv_iload_n hx hb dX6_canDeal_0 rfl (lv_at hl 1 rfl) ?_
  refine lv_iload_n hx hb dX6_canDeal_1 rfl (lv_at hl 2 rfl) ?_
  refine lv_icmp_eq (tgt := 41) hx hb dX6_canDeal_2 (by decide) (fun c1 => ?_) (fun c1 => ?_)
  · skip
    refine lv_iconst (v := 0) hx hb dX6_canDeal_41 (by decide) ?_
    exact z_zret hx hb hr hlocks hP hD hK hS (rfl) (by first | rfl | (simp only [bI, cdP, minP, maxP, c1, not_true_eq_false, not_false_eq_true, and_self, and_true, true_and, and_false, false_and, or_true, true_or, or_false, false_or, if_true, if_false, ite_true, ite_false]; done) | (simp [bI, cdP, minP, maxP, c1]; done) | (simp_all [bI, cdP, minP, maxP]; done)) rfl dX6_canDeal_42
  · skip
    refine lv_aload_n hx hb dX6_canDeal_5 rfl (lv_at hl 0 rfl) ?_
    refine lv_iload_n hx hb dX6_canDeal_6 rfl (lv_at hl 1 rfl) ?_
    refine z_callV1 (rest := []) S (c_X6_isThere g (show g < 8 by omega) (hB g (show g < 8 by omega)).1) qm_X6_68 v_X6_isThere ⟨Nat.le_of_ble_eq_true rfl, Nat.le_of_ble_eq_true rfl⟩ rfl rfl hN hK hP hD hS hA (0) (mo_0) rfl rfl hl.1 rfl (Nat.le_of_ble_eq_true rfl) dX6_canDeal_7 ⟨Nat.le_of_ble_eq_true rfl, Nat.le_of_ble_eq_true rfl⟩ (fun H locs hP hD hS => ?_)
    refine lv_if_eq (tgt := 41) hx hb dX6_canDeal_10 (by decide) (fun c2 => ?_) (fun c2 => ?_)
    · have c2 := bI_0n c2
      refine lv_iconst (v := 0) hx hb dX6_canDeal_41 (by decide) ?_
      exact z_zret hx hb hr hlocks hP hD hK hS (rfl) (by first | rfl | (simp only [bI, cdP, minP, maxP, c1, c2, not_true_eq_false, not_false_eq_true, and_self, and_true, true_and, and_false, false_and, or_true, true_or, or_false, false_or, if_true, if_false, ite_true, ite_false]; done) | (simp [bI, cdP, minP, maxP, c1, c2]; done) | (simp_all [bI, cdP, minP, maxP]; done)) rfl dX6_canDeal_42
    · have c2 := bI_1 c2
      refine lv_aload_n hx hb dX6_canDeal_13 rfl (lv_at hl 0 rfl) ?_
      refine lv_iload_n hx hb dX6_canDeal_14 rfl (lv_at hl 2 rfl) ?_
      refine z_callV1 (rest := []) S (c_X6_isThere t (show t < 8 by omega) (hB t (show t < 8 by omega)).1) qm_X6_68 v_X6_isThere ⟨Nat.le_of_ble_eq_true rfl, Nat.le_of_ble_eq_true rfl⟩ rfl rfl hN hK hP hD hS hA (0) (mo_0) rfl rfl hl.1 rfl (Nat.le_of_ble_eq_true rfl) dX6_canDeal_15 ⟨Nat.le_of_ble_eq_true rfl, Nat.le_of_ble_eq_true rfl⟩ (fun H locs hP hD hS => ?_)
      refine lv_if_eq (tgt := 41) hx hb dX6_canDeal_18 (by decide) (fun c3 => ?_) (fun c3 => ?_)
      · have c3 := bI_0n c3
        refine lv_iconst (v := 0) hx hb dX6_canDeal_41 (by decide) ?_
        exact z_zret hx hb hr hlocks hP hD hK hS (rfl) (by first | rfl | (simp only [bI, cdP, minP, maxP, c1, c2, c3, not_true_eq_false, not_false_eq_true, and_self, and_true, true_and, and_false, false_and, or_true, true_or, or_false, false_or, if_true, if_false, ite_true, ite_false]; done) | (simp [bI, cdP, minP, maxP, c1, c2, c3]; done) | (simp_all [bI, cdP, minP, maxP]; done)) rfl dX6_canDeal_42
      · have c3 := bI_1 c3
        refine lv_aload_n hx hb dX6_canDeal_21 rfl (lv_at hl 0 rfl) ?_
        refine lv_iload_n hx hb dX6_canDeal_22 rfl (lv_at hl 2 rfl) ?_
        refine lv_aload_n hx hb dX6_canDeal_23 rfl (lv_at hl 0 rfl) ?_
        refine lv_iload_n hx hb dX6_canDeal_24 rfl (lv_at hl 1 rfl) ?_
        refine lv_iload_n hx hb dX6_canDeal_25 rfl (lv_at hl 3 rfl) ?_
        refine lv_iload hx hb dX6_canDeal_26 (lv_at hl 4 rfl) ?_
        refine z_callV1 (rest := [.int (nI t), .ref (q 0)]) S (c_X6_valueOf g k (show g < 8 by omega) (show k < 5 by omega) mn) qm_X6_77 v_X6_valueOf ⟨Nat.le_of_ble_eq_true rfl, Nat.le_of_ble_eq_true rfl⟩ rfl rfl hN hK hP hD hS hA (0) (mo_0) rfl rfl hl.1 rfl (Nat.le_of_ble_eq_true rfl) dX6_canDeal_28 ⟨Nat.le_of_ble_eq_true rfl, Nat.le_of_ble_eq_true rfl⟩ (fun H locs hP hD hS => ?_)
        refine z_callV1 (rest := []) S (c_X6_canPay t (show t < 8 by omega) (valP (z (25 + 16 * g + k)) mn)) qm_X6_81 v_X6_canPay ⟨Nat.le_of_ble_eq_true rfl, Nat.le_of_ble_eq_true rfl⟩ rfl rfl hN hK hP hD hS hA (0) (mo_0) rfl rfl hl.1 rfl (Nat.le_of_ble_eq_true rfl) dX6_canDeal_31 ⟨Nat.le_of_ble_eq_true rfl, Nat.le_of_ble_eq_true rfl⟩ (fun H locs hP hD hS => ?_)
        refine lv_if_eq (tgt := 41) hx hb dX6_canDeal_34 (by decide) (fun c4 => ?_) (fun c4 => ?_)
        · have c4 := bI_0n c4
          refine lv_iconst (v := 0) hx hb dX6_canDeal_41 (by decide) ?_
          exact z_zret hx hb hr hlocks hP hD hK hS (rfl) (by first | rfl | (simp only [bI, cdP, minP, maxP, c1, c2, c3, c4, not_true_eq_false, not_false_eq_true, and_self, and_true, true_and, and_false, false_and, or_true, true_or, or_false, false_or, if_true, if_false, ite_true, ite_false]; done) | (simp [bI, cdP, minP, maxP, c1, c2, c3, c4]; done) | (simp_all [bI, cdP, minP, maxP]; done)) rfl dX6_canDeal_42
        · have c4 := bI_1 c4
          refine lv_iconst (v := 1) hx hb dX6_canDeal_37 (by decide) ?_
          refine lv_goto (tgt := 42) hx hb dX6_canDeal_38 (by decide) ?_
          exact z_zret hx hb hr hlocks hP hD hK hS (rfl) (by first | rfl | (simp only [bI, cdP, minP, maxP, c1, c2, c3, c4, not_true_eq_false, not_false_eq_true, and_self, and_true, true_and, and_false, false_and, or_true, true_or, or_false, false_or, if_true, if_false, ite_true, ite_false]; done) | (simp [bI, cdP, minP, maxP, c1, c2, c3, c4]; done) | (simp_all [bI, cdP, minP, maxP]; done)) rfl dX6_canDeal_42
set_option maxHeartbeats 4000000 in
set_option maxRecDepth 100000 in
theorem c_X6_deals0 (g t k : Nat) (hg : g < 8) (ht : t < 8) (hgt : g ≠ t) (hk : k < 5) (mn : Int32) : zM l D (zT cI cC cM cB cJ) yX6_deals cX6_deals 9 (some .int) ({ frames := 3, cells := 0, slots := 0, locals := 68 } : Room) [.ref (q 0), .int (nI g), .int (nI t), .int (nI k), .int mn] (moW cI q z hi tx pa ke mr hs wr) (moW cI q (dealM z g t k mn) hi tx pa ke mr hs wr) (some (.int (valP (z (25 + 16 * g + k)) mn))) 0 0 := by
  refine z_enter (by decide) (Nat.le_of_ble_eq_true rfl) ?_
  intro p e s m below meth c A S hr hlocks hnm hN hA hK hP hD hS ls hl
  obtain ⟨hx, hb, hml, hown, hts⟩ := id S
  have hl : lv_has ls 9 [(0, .ref (q 0)), (1, .int (nI g)), (2, .int (nI t)), (3, .int (nI k)), (4, .int mn)] := hl
  have hP : va_P D vwCl (moW cI q z hi tx pa ke mr hs wr) s.heap := hP
  have hD : va_D A (moW cI q z hi tx pa ke mr hs wr) := hD
  refine lv_aload_n hx hb dX6_deals_0 rfl (lv_at hl 0 rfl) ?_
  refine lv_iload_n hx hb dX6_deals_1 rfl (lv_at hl 1 rfl) ?_
  refine lv_iload_n hx hb dX6_deals_2 rfl (lv_at hl 3 rfl) ?_
  refine lv_iload hx hb dX6_deals_3 (lv_at hl 4 rfl) ?_
  refine z_callV1 (rest := []) S (c_X6_valueOf g k (show g < 8 by omega) (show k < 5 by omega) mn) qm_X6_77 v_X6_valueOf ⟨Nat.le_of_ble_eq_true rfl, Nat.le_of_ble_eq_true rfl⟩ rfl rfl hN hK hP hD hS hA (0) (mo_0) rfl rfl hl.1 rfl (Nat.le_of_ble_eq_true rfl) dX6_deals_5 ⟨Nat.le_of_ble_eq_true rfl, Nat.le_of_ble_eq_true rfl⟩ (fun H locs hP hD hS => ?_)
  refine lv_istore (lv' := [(5, .int (valP (z (25 + 16 * g + k)) mn)), (0, .ref (q 0)), (1, .int (nI g)), (2, .int (nI t)), (3, .int (nI k)), (4, .int mn)]) hx hb dX6_deals_8 hl (by decide) rfl (fun ls hl => ?_)
  refine lv_aload_n hx hb dX6_deals_10 rfl (lv_at hl 1 rfl) ?_
  refine lv_iload_n hx hb dX6_deals_11 rfl (lv_at hl 2 rfl) ?_
  refine lv_iconst (v := 2) hx hb dX6_deals_12 (by decide) ?_
  refine z_callV1 (rest := []) S (c_X6_of g 2 (14 + 16 * g + 2) (show g < 8 by omega) (show 2 < 16 by decide) (by omega) (z (14 + 16 * g + 2)) (rfl)) qm_X6_36 v_X6_of ⟨Nat.le_of_ble_eq_true rfl, Nat.le_of_ble_eq_true rfl⟩ rfl rfl hN hK hP hD hS hA (0) (mo_0) rfl rfl hl.1 rfl (Nat.le_of_ble_eq_true rfl) dX6_deals_13 ⟨Nat.le_of_ble_eq_true rfl, Nat.le_of_ble_eq_true rfl⟩ (fun H locs hP hD hS => ?_)
  refine lv_istore (lv' := [(6, .int (z (14 + 16 * g + 2))), (5, .int (valP (z (25 + 16 * g + k)) mn)), (0, .ref (q 0)), (1, .int (nI g)), (2, .int (nI t)), (3, .int (nI k)), (4, .int mn)]) hx hb dX6_deals_16 hl (by decide) rfl (fun ls hl => ?_)
  refine lv_iload hx hb dX6_deals_18 (lv_at hl 1 rfl) ?_
  refine lv_iconst (v := 2) hx hb dX6_deals_20 (by decide) ?_
  refine lv_idiv hx hb dX6_deals_21 (by decide) ?_
  refine lv_iload hx hb dX6_deals_22 (lv_at hl 0 rfl) ?_
  refine lv_icmp_ge (tgt := 34) hx hb dX6_deals_24 (by decide) (fun c1 => ?_) (fun c1 => ?_)
  · have c1 := z_nlt c1
    refine lv_iload hx hb dX6_deals_34 (lv_at hl 0 rfl) ?_
    refine z_top (v2 := .int (minP ((valP (z (25 + 16 * g + k)) mn) / 2) (z (14 + 16 * g + 2)))) (congrArg Value.int (minP_b c1)) ?_
    refine lv_istore (lv' := [(7, .int (minP ((valP (z (25 + 16 * g + k)) mn) / 2) (z (14 + 16 * g + 2)))), (6, .int (z (14 + 16 * g + 2))), (5, .int (valP (z (25 + 16 * g + k)) mn)), (0, .ref (q 0)), (1, .int (nI g)), (2, .int (nI t)), (3, .int (nI k)), (4, .int mn)]) hx hb dX6_deals_36 hl (by decide) rfl (fun ls hl => ?_)
    refine lv_aload_n hx hb dX6_deals_38 rfl (lv_at hl 3 rfl) ?_
    refine lv_iload_n hx hb dX6_deals_39 rfl (lv_at hl 5 rfl) ?_
    refine lv_iconst (v := 1) hx hb dX6_deals_40 (by decide) ?_
    refine lv_iload hx hb dX6_deals_41 (lv_at hl 2 rfl) ?_
    refine lv_ineg hx hb dX6_deals_43 ?_
    refine z_callV0 (rest := []) S (c_X6_add t 1 (14 + 16 * t + 1) (show t < 8 by omega) (show 1 < 16 by decide) (by omega) (-(valP (z (25 + 16 * g + k)) mn)) (z (14 + 16 * t + 1)) (rfl)) qm_X6_51 v_X6_add ⟨Nat.le_of_ble_eq_true rfl, Nat.le_of_ble_eq_true rfl⟩ rfl rfl hN hK hP hD hS hA (0) (mo_0) rfl rfl hl.1 rfl (Nat.le_of_ble_eq_true rfl) dX6_deals_44 ⟨Nat.le_of_ble_eq_true rfl, Nat.le_of_ble_eq_true rfl⟩ (fun H locs hP hD hS => ?_)
    refine lv_aload_n hx hb dX6_deals_47 rfl (lv_at hl 3 rfl) ?_
    refine lv_iload_n hx hb dX6_deals_48 rfl (lv_at hl 5 rfl) ?_
    refine lv_bipush (v := 8) hx hb dX6_deals_49 (by decide) ?_
    refine lv_iload hx hb dX6_deals_51 (lv_at hl 2 rfl) ?_
    refine z_callV0 (rest := []) S (c_X6_add t 8 (14 + 16 * t + 8) (show t < 8 by omega) (show 8 < 16 by decide) (by omega) (valP (z (25 + 16 * g + k)) mn) (z (14 + 16 * t + 8)) ((upd_ne (by omega)).trans (rfl))) qm_X6_51 v_X6_add ⟨Nat.le_of_ble_eq_true rfl, Nat.le_of_ble_eq_true rfl⟩ rfl rfl hN hK hP hD hS hA (0) (mo_0) rfl rfl hl.1 rfl (Nat.le_of_ble_eq_true rfl) dX6_deals_53 ⟨Nat.le_of_ble_eq_true rfl, Nat.le_of_ble_eq_true rfl⟩ (fun H locs hP hD hS => ?_)
    refine lv_aload_n hx hb dX6_deals_56 rfl (lv_at hl 3 rfl) ?_
    refine lv_iload_n hx hb dX6_deals_57 rfl (lv_at hl 5 rfl) ?_
    refine lv_bipush (v := 6) hx hb dX6_deals_58 (by decide) ?_
    refine lv_iload hx hb dX6_deals_60 (lv_at hl 7 rfl) ?_
    refine z_callV0 (rest := []) S (c_X6_add t 6 (14 + 16 * t + 6) (show t < 8 by omega) (show 6 < 16 by decide) (by omega) mn (z (14 + 16 * t + 6)) ((upd_ne (by omega)).trans ((upd_ne (by omega)).trans (rfl)))) qm_X6_51 v_X6_add ⟨Nat.le_of_ble_eq_true rfl, Nat.le_of_ble_eq_true rfl⟩ rfl rfl hN hK hP hD hS hA (0) (mo_0) rfl rfl hl.1 rfl (Nat.le_of_ble_eq_true rfl) dX6_deals_62 ⟨Nat.le_of_ble_eq_true rfl, Nat.le_of_ble_eq_true rfl⟩ (fun H locs hP hD hS => ?_)
    refine lv_aload_n hx hb dX6_deals_65 rfl (lv_at hl 3 rfl) ?_
    refine lv_iload_n hx hb dX6_deals_66 rfl (lv_at hl 5 rfl) ?_
    refine lv_iconst (v := 4) hx hb dX6_deals_67 (by decide) ?_
    refine lv_iconst (v := 1) hx hb dX6_deals_68 (by decide) ?_
    refine z_callV0 (rest := []) S (c_X6_put t 4 (14 + 16 * t + 4) (show t < 8 by omega) (show 4 < 16 by decide) (by omega) 1) qm_X6_61 v_X6_put ⟨Nat.le_of_ble_eq_true rfl, Nat.le_of_ble_eq_true rfl⟩ rfl rfl hN hK hP hD hS hA (0) (mo_0) rfl rfl hl.1 rfl (Nat.le_of_ble_eq_true rfl) dX6_deals_69 ⟨Nat.le_of_ble_eq_true rfl, Nat.le_of_ble_eq_true rfl⟩ (fun H locs hP hD hS => ?_)
    refine lv_aload_n hx hb dX6_deals_72 rfl (lv_at hl 3 rfl) ?_
    refine lv_iload_n hx hb dX6_deals_73 rfl (lv_at hl 4 rfl) ?_
    refine lv_iconst (v := 1) hx hb dX6_deals_74 (by decide) ?_
    refine lv_iload hx hb dX6_deals_75 (lv_at hl 2 rfl) ?_
    refine lv_iload hx hb dX6_deals_77 (lv_at hl 0 rfl) ?_
    refine lv_isub hx hb dX6_deals_79  ?_
    refine z_callV0 (rest := []) S (c_X6_add g 1 (14 + 16 * g + 1) (show g < 8 by omega) (show 1 < 16 by decide) (by omega) ((valP (z (25 + 16 * g + k)) mn) - (minP ((valP (z (25 + 16 * g + k)) mn) / 2) (z (14 + 16 * g + 2)))) (z (14 + 16 * g + 1)) ((upd_ne (by omega)).trans ((upd_ne (by omega)).trans ((upd_ne (by omega)).trans ((upd_ne (by omega)).trans (rfl)))))) qm_X6_51 v_X6_add ⟨Nat.le_of_ble_eq_true rfl, Nat.le_of_ble_eq_true rfl⟩ rfl rfl hN hK hP hD hS hA (0) (mo_0) rfl rfl hl.1 rfl (Nat.le_of_ble_eq_true rfl) dX6_deals_80 ⟨Nat.le_of_ble_eq_true rfl, Nat.le_of_ble_eq_true rfl⟩ (fun H locs hP hD hS => ?_)
    refine lv_aload_n hx hb dX6_deals_83 rfl (lv_at hl 3 rfl) ?_
    refine lv_iload_n hx hb dX6_deals_84 rfl (lv_at hl 4 rfl) ?_
    refine lv_iconst (v := 2) hx hb dX6_deals_85 (by decide) ?_
    refine lv_iload hx hb dX6_deals_86 (lv_at hl 0 rfl) ?_
    refine lv_ineg hx hb dX6_deals_88 ?_
    refine z_callV0 (rest := []) S (c_X6_add g 2 (14 + 16 * g + 2) (show g < 8 by omega) (show 2 < 16 by decide) (by omega) (-(minP ((valP (z (25 + 16 * g + k)) mn) / 2) (z (14 + 16 * g + 2)))) (z (14 + 16 * g + 2)) ((upd_ne (by omega)).trans ((upd_ne (by omega)).trans ((upd_ne (by omega)).trans ((upd_ne (by omega)).trans ((upd_ne (by omega)).trans (rfl))))))) qm_X6_51 v_X6_add ⟨Nat.le_of_ble_eq_true rfl, Nat.le_of_ble_eq_true rfl⟩ rfl rfl hN hK hP hD hS hA (0) (mo_0) rfl rfl hl.1 rfl (Nat.le_of_ble_eq_true rfl) dX6_deals_89 ⟨Nat.le_of_ble_eq_true rfl, Nat.le_of_ble_eq_true rfl⟩ (fun H locs hP hD hS => ?_)
    refine lv_aload_n hx hb dX6_deals_92 rfl (lv_at hl 3 rfl) ?_
    refine va_get (v := .ref (q 1)) hx hb hts inTX6 hown hK hP (0) (mo_0) rfl 0 (by decide) (hts _ qf_X6_7) (fun _ h9 => h9) (rfl) dX6_deals_93 ?_
    refine lv_bipush (v := 6) hx hb dX6_deals_96 (by decide) ?_
    refine lv_dup2_11 hx hb dX6_deals_98 rfl rfl ?_
    refine va_iald hx hb hK hP (1) 0 (mo_1) rfl (vp_in_nI (show 6 < 142 by decide) (by omega)) dX6_deals_99 ?_
    refine z_top (v2 := .int (z 6)) (congrArg Value.int (((congrArg (zfn (upd (upd (upd (upd (upd (upd z (14 + 16 * t + 1) ((z (14 + 16 * t + 1)) + (-(valP (z (25 + 16 * g + k)) mn)))) (14 + 16 * t + 8) ((z (14 + 16 * t + 8)) + (valP (z (25 + 16 * g + k)) mn))) (14 + 16 * t + 6) ((z (14 + 16 * t + 6)) + mn)) (14 + 16 * t + 4) 1) (14 + 16 * g + 1) ((z (14 + 16 * g + 1)) + ((valP (z (25 + 16 * g + k)) mn) - (minP ((valP (z (25 + 16 * g + k)) mn) / 2) (z (14 + 16 * g + 2)))))) (14 + 16 * g + 2) ((z (14 + 16 * g + 2)) + (-(minP ((valP (z (25 + 16 * g + k)) mn) / 2) (z (14 + 16 * g + 2))))))) (z_cl (k := 6) rfl)).trans (zfn_at (by omega))).trans ((upd_ne (by omega)).trans ((upd_ne (by omega)).trans ((upd_ne (by omega)).trans ((upd_ne (by omega)).trans ((upd_ne (by omega)).trans ((upd_ne (by omega)).trans (rfl))))))))) ?_
    refine lv_iload hx hb dX6_deals_100 (lv_at hl 0 rfl) ?_
    refine lv_iadd hx hb dX6_deals_102  ?_
    refine z_iast (ws2 := moW cI q (upd (upd (upd (upd (upd (upd (upd z (14 + 16 * t + 1) ((z (14 + 16 * t + 1)) + (-(valP (z (25 + 16 * g + k)) mn)))) (14 + 16 * t + 8) ((z (14 + 16 * t + 8)) + (valP (z (25 + 16 * g + k)) mn))) (14 + 16 * t + 6) ((z (14 + 16 * t + 6)) + mn)) (14 + 16 * t + 4) 1) (14 + 16 * g + 1) ((z (14 + 16 * g + 1)) + ((valP (z (25 + 16 * g + k)) mn) - (minP ((valP (z (25 + 16 * g + k)) mn) / 2) (z (14 + 16 * g + 2)))))) (14 + 16 * g + 2) ((z (14 + 16 * g + 2)) + (-(minP ((valP (z (25 + 16 * g + k)) mn) / 2) (z (14 + 16 * g + 2)))))) 6 ((z 6) + (minP ((valP (z (25 + 16 * g + k)) mn) / 2) (z (14 + 16 * g + 2))))) hi tx pa ke mr hs wr) hx hb hK hP hD hS (1) 0 (mo_1) rfl (vp_in_nI (show 6 < 142 by decide) (by omega)) dX6_deals_103 (mo_w1 (z_cl (k := 6) rfl) (by omega)) (fun H locs hP hD hS => ?_)
    refine lv_aload_n hx hb dX6_deals_104 rfl (lv_at hl 3 rfl) ?_
    refine lv_iload_n hx hb dX6_deals_105 rfl (lv_at hl 4 rfl) ?_
    refine lv_bipush (v := 7) hx hb dX6_deals_106 (by decide) ?_
    refine lv_iload hx hb dX6_deals_108 (lv_at hl 2 rfl) ?_
    refine z_callV0 (rest := []) S (c_X6_add g 7 (14 + 16 * g + 7) (show g < 8 by omega) (show 7 < 16 by decide) (by omega) (valP (z (25 + 16 * g + k)) mn) (z (14 + 16 * g + 7)) ((upd_ne (by omega)).trans ((upd_ne (by omega)).trans ((upd_ne (by omega)).trans ((upd_ne (by omega)).trans ((upd_ne (by omega)).trans ((upd_ne (by omega)).trans ((upd_ne (by omega)).trans (rfl))))))))) qm_X6_51 v_X6_add ⟨Nat.le_of_ble_eq_true rfl, Nat.le_of_ble_eq_true rfl⟩ rfl rfl hN hK hP hD hS hA (0) (mo_0) rfl rfl hl.1 rfl (Nat.le_of_ble_eq_true rfl) dX6_deals_110 ⟨Nat.le_of_ble_eq_true rfl, Nat.le_of_ble_eq_true rfl⟩ (fun H locs hP hD hS => ?_)
    refine lv_aload_n hx hb dX6_deals_113 rfl (lv_at hl 3 rfl) ?_
    refine lv_iload_n hx hb dX6_deals_114 rfl (lv_at hl 4 rfl) ?_
    refine lv_iconst (v := 5) hx hb dX6_deals_115 (by decide) ?_
    refine lv_iload hx hb dX6_deals_116 (lv_at hl 7 rfl) ?_
    refine z_callV0 (rest := []) S (c_X6_add g 5 (14 + 16 * g + 5) (show g < 8 by omega) (show 5 < 16 by decide) (by omega) mn (z (14 + 16 * g + 5)) ((upd_ne (by omega)).trans ((upd_ne (by omega)).trans ((upd_ne (by omega)).trans ((upd_ne (by omega)).trans ((upd_ne (by omega)).trans ((upd_ne (by omega)).trans ((upd_ne (by omega)).trans ((upd_ne (by omega)).trans (rfl)))))))))) qm_X6_51 v_X6_add ⟨Nat.le_of_ble_eq_true rfl, Nat.le_of_ble_eq_true rfl⟩ rfl rfl hN hK hP hD hS hA (0) (mo_0) rfl rfl hl.1 rfl (Nat.le_of_ble_eq_true rfl) dX6_deals_118 ⟨Nat.le_of_ble_eq_true rfl, Nat.le_of_ble_eq_true rfl⟩ (fun H locs hP hD hS => ?_)
    refine lv_aload_n hx hb dX6_deals_121 rfl (lv_at hl 3 rfl) ?_
    refine lv_iload_n hx hb dX6_deals_122 rfl (lv_at hl 4 rfl) ?_
    refine lv_iconst (v := 4) hx hb dX6_deals_123 (by decide) ?_
    refine lv_iconst (v := 1) hx hb dX6_deals_124 (by decide) ?_
    refine z_callV0 (rest := []) S (c_X6_put g 4 (14 + 16 * g + 4) (show g < 8 by omega) (show 4 < 16 by decide) (by omega) 1) qm_X6_61 v_X6_put ⟨Nat.le_of_ble_eq_true rfl, Nat.le_of_ble_eq_true rfl⟩ rfl rfl hN hK hP hD hS hA (0) (mo_0) rfl rfl hl.1 rfl (Nat.le_of_ble_eq_true rfl) dX6_deals_125 ⟨Nat.le_of_ble_eq_true rfl, Nat.le_of_ble_eq_true rfl⟩ (fun H locs hP hD hS => ?_)
    refine lv_aload_n hx hb dX6_deals_128 rfl (lv_at hl 3 rfl) ?_
    refine lv_iload_n hx hb dX6_deals_129 rfl (lv_at hl 4 rfl) ?_
    refine lv_bipush (v := 11) hx hb dX6_deals_130 (by decide) ?_
    refine lv_iload_n hx hb dX6_deals_132 rfl (lv_at hl 6 rfl) ?_
    refine lv_iadd hx hb dX6_deals_133  ?_
    refine z_top (v2 := .int (nI (11 + k))) (congrArg Value.int (nI_add 11 k)) ?_
    refine z_callV1 (rest := []) S (c_X6_of g (11 + k) (25 + 16 * g + k) (show g < 8 by omega) (show 11 + k < 16 by omega) (by omega) (z (25 + 16 * g + k)) ((upd_ne (by omega)).trans ((upd_ne (by omega)).trans ((upd_ne (by omega)).trans ((upd_ne (by omega)).trans ((upd_ne (by omega)).trans ((upd_ne (by omega)).trans ((upd_ne (by omega)).trans ((upd_ne (by omega)).trans ((upd_ne (by omega)).trans ((upd_ne (by omega)).trans (rfl)))))))))))) qm_X6_36 v_X6_of ⟨Nat.le_of_ble_eq_true rfl, Nat.le_of_ble_eq_true rfl⟩ rfl rfl hN hK hP hD hS hA (0) (mo_0) rfl rfl hl.1 rfl (Nat.le_of_ble_eq_true rfl) dX6_deals_134 ⟨Nat.le_of_ble_eq_true rfl, Nat.le_of_ble_eq_true rfl⟩ (fun H locs hP hD hS => ?_)
    refine lv_iload hx hb dX6_deals_137 (lv_at hl 7 rfl) ?_
    refine lv_iadd hx hb dX6_deals_139  ?_
    refine lv_istore (lv' := [(8, .int ((z (25 + 16 * g + k)) + mn)), (7, .int (minP ((valP (z (25 + 16 * g + k)) mn) / 2) (z (14 + 16 * g + 2)))), (6, .int (z (14 + 16 * g + 2))), (5, .int (valP (z (25 + 16 * g + k)) mn)), (0, .ref (q 0)), (1, .int (nI g)), (2, .int (nI t)), (3, .int (nI k)), (4, .int mn)]) hx hb dX6_deals_140 hl (by decide) rfl (fun ls hl => ?_)
    refine lv_aload_n hx hb dX6_deals_142 rfl (lv_at hl 4 rfl) ?_
    refine lv_iload_n hx hb dX6_deals_143 rfl (lv_at hl 5 rfl) ?_
    refine lv_bipush (v := 11) hx hb dX6_deals_144 (by decide) ?_
    refine lv_iload_n hx hb dX6_deals_146 rfl (lv_at hl 7 rfl) ?_
    refine lv_iadd hx hb dX6_deals_147  ?_
    refine z_top (v2 := .int (nI (11 + k))) (congrArg Value.int (nI_add 11 k)) ?_
    refine lv_iload hx hb dX6_deals_148 (lv_at hl 0 rfl) ?_
    refine lv_sipush (v := 9999) hx hb dX6_deals_150 (by decide) ?_
    refine lv_icmp_le (tgt := 162) hx hb dX6_deals_153 (by decide) (fun c2 => ?_) (fun c2 => ?_)
    · have c2 := z_nlt c2
      refine lv_iload hx hb dX6_deals_162 (lv_at hl 0 rfl) ?_
      refine z_top (v2 := .int (minP (z (25 + 16 * g + k) + mn) 9999)) (congrArg Value.int (minP_d c2)) ?_
      refine z_callV0 (rest := []) S (c_X6_put g (11 + k) (25 + 16 * g + k) (show g < 8 by omega) (show 11 + k < 16 by omega) (by omega) (minP (z (25 + 16 * g + k) + mn) 9999)) qm_X6_61 v_X6_put ⟨Nat.le_of_ble_eq_true rfl, Nat.le_of_ble_eq_true rfl⟩ rfl rfl hN hK hP hD hS hA (0) (mo_0) rfl rfl hl.1 rfl (Nat.le_of_ble_eq_true rfl) dX6_deals_164 ⟨Nat.le_of_ble_eq_true rfl, Nat.le_of_ble_eq_true rfl⟩ (fun H locs hP hD hS => ?_)
      refine lv_aload_n hx hb dX6_deals_167 rfl (lv_at hl 4 rfl) ?_
      refine va_get (v := .ref (q 1)) hx hb hts inTX6 hown hK hP (0) (mo_0) rfl 0 (by decide) (hts _ qf_X6_7) (fun _ h9 => h9) (rfl) dX6_deals_168 ?_
      refine lv_bipush (v := 9) hx hb dX6_deals_171 (by decide) ?_
      refine lv_dup2_11 hx hb dX6_deals_173 rfl rfl ?_
      refine va_iald hx hb hK hP (1) 0 (mo_1) rfl (vp_in_nI (show 9 < 142 by decide) (by omega)) dX6_deals_174 ?_
      refine z_top (v2 := .int (z 9)) (congrArg Value.int (((congrArg (zfn (upd (upd (upd (upd (upd (upd (upd (upd (upd (upd (upd z (14 + 16 * t + 1) ((z (14 + 16 * t + 1)) + (-(valP (z (25 + 16 * g + k)) mn)))) (14 + 16 * t + 8) ((z (14 + 16 * t + 8)) + (valP (z (25 + 16 * g + k)) mn))) (14 + 16 * t + 6) ((z (14 + 16 * t + 6)) + mn)) (14 + 16 * t + 4) 1) (14 + 16 * g + 1) ((z (14 + 16 * g + 1)) + ((valP (z (25 + 16 * g + k)) mn) - (minP ((valP (z (25 + 16 * g + k)) mn) / 2) (z (14 + 16 * g + 2)))))) (14 + 16 * g + 2) ((z (14 + 16 * g + 2)) + (-(minP ((valP (z (25 + 16 * g + k)) mn) / 2) (z (14 + 16 * g + 2)))))) 6 ((z 6) + (minP ((valP (z (25 + 16 * g + k)) mn) / 2) (z (14 + 16 * g + 2))))) (14 + 16 * g + 7) ((z (14 + 16 * g + 7)) + (valP (z (25 + 16 * g + k)) mn))) (14 + 16 * g + 5) ((z (14 + 16 * g + 5)) + mn)) (14 + 16 * g + 4) 1) (25 + 16 * g + k) (minP (z (25 + 16 * g + k) + mn) 9999))) (z_cl (k := 9) rfl)).trans (zfn_at (by omega))).trans ((upd_ne (by omega)).trans ((upd_ne (by omega)).trans ((upd_ne (by omega)).trans ((upd_ne (by omega)).trans ((upd_ne (by omega)).trans ((upd_ne (by omega)).trans ((upd_ne (by omega)).trans ((upd_ne (by omega)).trans ((upd_ne (by omega)).trans ((upd_ne (by omega)).trans ((upd_ne (by omega)).trans (rfl)))))))))))))) ?_
      refine lv_iconst (v := 1) hx hb dX6_deals_175 (by decide) ?_
      refine lv_iadd hx hb dX6_deals_176  ?_
      refine z_iast (ws2 := moW cI q (upd (upd (upd (upd (upd (upd (upd (upd (upd (upd (upd (upd z (14 + 16 * t + 1) ((z (14 + 16 * t + 1)) + (-(valP (z (25 + 16 * g + k)) mn)))) (14 + 16 * t + 8) ((z (14 + 16 * t + 8)) + (valP (z (25 + 16 * g + k)) mn))) (14 + 16 * t + 6) ((z (14 + 16 * t + 6)) + mn)) (14 + 16 * t + 4) 1) (14 + 16 * g + 1) ((z (14 + 16 * g + 1)) + ((valP (z (25 + 16 * g + k)) mn) - (minP ((valP (z (25 + 16 * g + k)) mn) / 2) (z (14 + 16 * g + 2)))))) (14 + 16 * g + 2) ((z (14 + 16 * g + 2)) + (-(minP ((valP (z (25 + 16 * g + k)) mn) / 2) (z (14 + 16 * g + 2)))))) 6 ((z 6) + (minP ((valP (z (25 + 16 * g + k)) mn) / 2) (z (14 + 16 * g + 2))))) (14 + 16 * g + 7) ((z (14 + 16 * g + 7)) + (valP (z (25 + 16 * g + k)) mn))) (14 + 16 * g + 5) ((z (14 + 16 * g + 5)) + mn)) (14 + 16 * g + 4) 1) (25 + 16 * g + k) (minP (z (25 + 16 * g + k) + mn) 9999)) 9 ((z 9) + 1)) hi tx pa ke mr hs wr) hx hb hK hP hD hS (1) 0 (mo_1) rfl (vp_in_nI (show 9 < 142 by decide) (by omega)) dX6_deals_177 (mo_w1 (z_cl (k := 9) rfl) (by omega)) (fun H locs hP hD hS => ?_)
      refine lv_iload hx hb dX6_deals_178 (lv_at hl 3 rfl) ?_
      exact z_iret hx hb hr hlocks hP hD hK hS (rfl) (by first | rfl | (simp only [minP, maxP, c1, c2, not_true_eq_false, not_false_eq_true, and_self, and_true, true_and, and_false, false_and, or_true, true_or, or_false, false_or, if_true, if_false, ite_true, ite_false]; done) | (simp [minP, maxP, c1, c2]; done) | (simp_all [minP, maxP]; done)) dX6_deals_180
    · have c2 := z_lt c2
      refine lv_sipush (v := 9999) hx hb dX6_deals_156 (by decide) ?_
      refine z_top (v2 := .int (minP (z (25 + 16 * g + k) + mn) 9999)) (congrArg Value.int (minP_c c2)) ?_
      refine lv_goto (tgt := 164) hx hb dX6_deals_159 (by decide) ?_
      refine z_callV0 (rest := []) S (c_X6_put g (11 + k) (25 + 16 * g + k) (show g < 8 by omega) (show 11 + k < 16 by omega) (by omega) (minP (z (25 + 16 * g + k) + mn) 9999)) qm_X6_61 v_X6_put ⟨Nat.le_of_ble_eq_true rfl, Nat.le_of_ble_eq_true rfl⟩ rfl rfl hN hK hP hD hS hA (0) (mo_0) rfl rfl hl.1 rfl (Nat.le_of_ble_eq_true rfl) dX6_deals_164 ⟨Nat.le_of_ble_eq_true rfl, Nat.le_of_ble_eq_true rfl⟩ (fun H locs hP hD hS => ?_)
      refine lv_aload_n hx hb dX6_deals_167 rfl (lv_at hl 4 rfl) ?_
      refine va_get (v := .ref (q 1)) hx hb hts inTX6 hown hK hP (0) (mo_0) rfl 0 (by decide) (hts _ qf_X6_7) (fun _ h9 => h9) (rfl) dX6_deals_168 ?_
      refine lv_bipush (v := 9) hx hb dX6_deals_171 (by decide) ?_
      refine lv_dup2_11 hx hb dX6_deals_173 rfl rfl ?_
      refine va_iald hx hb hK hP (1) 0 (mo_1) rfl (vp_in_nI (show 9 < 142 by decide) (by omega)) dX6_deals_174 ?_
      refine z_top (v2 := .int (z 9)) (congrArg Value.int (((congrArg (zfn (upd (upd (upd (upd (upd (upd (upd (upd (upd (upd (upd z (14 + 16 * t + 1) ((z (14 + 16 * t + 1)) + (-(valP (z (25 + 16 * g + k)) mn)))) (14 + 16 * t + 8) ((z (14 + 16 * t + 8)) + (valP (z (25 + 16 * g + k)) mn))) (14 + 16 * t + 6) ((z (14 + 16 * t + 6)) + mn)) (14 + 16 * t + 4) 1) (14 + 16 * g + 1) ((z (14 + 16 * g + 1)) + ((valP (z (25 + 16 * g + k)) mn) - (minP ((valP (z (25 + 16 * g + k)) mn) / 2) (z (14 + 16 * g + 2)))))) (14 + 16 * g + 2) ((z (14 + 16 * g + 2)) + (-(minP ((valP (z (25 + 16 * g + k)) mn) / 2) (z (14 + 16 * g + 2)))))) 6 ((z 6) + (minP ((valP (z (25 + 16 * g + k)) mn) / 2) (z (14 + 16 * g + 2))))) (14 + 16 * g + 7) ((z (14 + 16 * g + 7)) + (valP (z (25 + 16 * g + k)) mn))) (14 + 16 * g + 5) ((z (14 + 16 * g + 5)) + mn)) (14 + 16 * g + 4) 1) (25 + 16 * g + k) (minP (z (25 + 16 * g + k) + mn) 9999))) (z_cl (k := 9) rfl)).trans (zfn_at (by omega))).trans ((upd_ne (by omega)).trans ((upd_ne (by omega)).trans ((upd_ne (by omega)).trans ((upd_ne (by omega)).trans ((upd_ne (by omega)).trans ((upd_ne (by omega)).trans ((upd_ne (by omega)).trans ((upd_ne (by omega)).trans ((upd_ne (by omega)).trans ((upd_ne (by omega)).trans ((upd_ne (by omega)).trans (rfl)))))))))))))) ?_
      refine lv_iconst (v := 1) hx hb dX6_deals_175 (by decide) ?_
      refine lv_iadd hx hb dX6_deals_176  ?_
      refine z_iast (ws2 := moW cI q (upd (upd (upd (upd (upd (upd (upd (upd (upd (upd (upd (upd z (14 + 16 * t + 1) ((z (14 + 16 * t + 1)) + (-(valP (z (25 + 16 * g + k)) mn)))) (14 + 16 * t + 8) ((z (14 + 16 * t + 8)) + (valP (z (25 + 16 * g + k)) mn))) (14 + 16 * t + 6) ((z (14 + 16 * t + 6)) + mn)) (14 + 16 * t + 4) 1) (14 + 16 * g + 1) ((z (14 + 16 * g + 1)) + ((valP (z (25 + 16 * g + k)) mn) - (minP ((valP (z (25 + 16 * g + k)) mn) / 2) (z (14 + 16 * g + 2)))))) (14 + 16 * g + 2) ((z (14 + 16 * g + 2)) + (-(minP ((valP (z (25 + 16 * g + k)) mn) / 2) (z (14 + 16 * g + 2)))))) 6 ((z 6) + (minP ((valP (z (25 + 16 * g + k)) mn) / 2) (z (14 + 16 * g + 2))))) (14 + 16 * g + 7) ((z (14 + 16 * g + 7)) + (valP (z (25 + 16 * g + k)) mn))) (14 + 16 * g + 5) ((z (14 + 16 * g + 5)) + mn)) (14 + 16 * g + 4) 1) (25 + 16 * g + k) (minP (z (25 + 16 * g + k) + mn) 9999)) 9 ((z 9) + 1)) hi tx pa ke mr hs wr) hx hb hK hP hD hS (1) 0 (mo_1) rfl (vp_in_nI (show 9 < 142 by decide) (by omega)) dX6_deals_177 (mo_w1 (z_cl (k := 9) rfl) (by omega)) (fun H locs hP hD hS => ?_)
      refine lv_iload hx hb dX6_deals_178 (lv_at hl 3 rfl) ?_
      exact z_iret hx hb hr hlocks hP hD hK hS (rfl) (by first | rfl | (simp only [minP, maxP, c1, c2, not_true_eq_false, not_false_eq_true, and_self, and_true, true_and, and_false, false_and, or_true, true_or, or_false, false_or, if_true, if_false, ite_true, ite_false]; done) | (simp [minP, maxP, c1, c2]; done) | (simp_all [minP, maxP]; done)) dX6_deals_180
  · have c1 := z_lt c1
    refine lv_iload hx hb dX6_deals_27 (lv_at hl 1 rfl) ?_
    refine lv_iconst (v := 2) hx hb dX6_deals_29 (by decide) ?_
    refine lv_idiv hx hb dX6_deals_30 (by decide) ?_
    refine z_top (v2 := .int (minP ((valP (z (25 + 16 * g + k)) mn) / 2) (z (14 + 16 * g + 2)))) (congrArg Value.int (minP_a c1)) ?_
    refine lv_goto (tgt := 36) hx hb dX6_deals_31 (by decide) ?_
    refine lv_istore (lv' := [(7, .int (minP ((valP (z (25 + 16 * g + k)) mn) / 2) (z (14 + 16 * g + 2)))), (6, .int (z (14 + 16 * g + 2))), (5, .int (valP (z (25 + 16 * g + k)) mn)), (0, .ref (q 0)), (1, .int (nI g)), (2, .int (nI t)), (3, .int (nI k)), (4, .int mn)]) hx hb dX6_deals_36 hl (by decide) rfl (fun ls hl => ?_)
    refine lv_aload_n hx hb dX6_deals_38 rfl (lv_at hl 3 rfl) ?_
    refine lv_iload_n hx hb dX6_deals_39 rfl (lv_at hl 5 rfl) ?_
    refine lv_iconst (v := 1) hx hb dX6_deals_40 (by decide) ?_
    refine lv_iload hx hb dX6_deals_41 (lv_at hl 2 rfl) ?_
    refine lv_ineg hx hb dX6_deals_43 ?_
    refine z_callV0 (rest := []) S (c_X6_add t 1 (14 + 16 * t + 1) (show t < 8 by omega) (show 1 < 16 by decide) (by omega) (-(valP (z (25 + 16 * g + k)) mn)) (z (14 + 16 * t + 1)) (rfl)) qm_X6_51 v_X6_add ⟨Nat.le_of_ble_eq_true rfl, Nat.le_of_ble_eq_true rfl⟩ rfl rfl hN hK hP hD hS hA (0) (mo_0) rfl rfl hl.1 rfl (Nat.le_of_ble_eq_true rfl) dX6_deals_44 ⟨Nat.le_of_ble_eq_true rfl, Nat.le_of_ble_eq_true rfl⟩ (fun H locs hP hD hS => ?_)
    refine lv_aload_n hx hb dX6_deals_47 rfl (lv_at hl 3 rfl) ?_
    refine lv_iload_n hx hb dX6_deals_48 rfl (lv_at hl 5 rfl) ?_
    refine lv_bipush (v := 8) hx hb dX6_deals_49 (by decide) ?_
    refine lv_iload hx hb dX6_deals_51 (lv_at hl 2 rfl) ?_
    refine z_callV0 (rest := []) S (c_X6_add t 8 (14 + 16 * t + 8) (show t < 8 by omega) (show 8 < 16 by decide) (by omega) (valP (z (25 + 16 * g + k)) mn) (z (14 + 16 * t + 8)) ((upd_ne (by omega)).trans (rfl))) qm_X6_51 v_X6_add ⟨Nat.le_of_ble_eq_true rfl, Nat.le_of_ble_eq_true rfl⟩ rfl rfl hN hK hP hD hS hA (0) (mo_0) rfl rfl hl.1 rfl (Nat.le_of_ble_eq_true rfl) dX6_deals_53 ⟨Nat.le_of_ble_eq_true rfl, Nat.le_of_ble_eq_true rfl⟩ (fun H locs hP hD hS => ?_)
    refine lv_aload_n hx hb dX6_deals_56 rfl (lv_at hl 3 rfl) ?_
    refine lv_iload_n hx hb dX6_deals_57 rfl (lv_at hl 5 rfl) ?_
    refine lv_bipush (v := 6) hx hb dX6_deals_58 (by decide) ?_
    refine lv_iload hx hb dX6_deals_60 (lv_at hl 7 rfl) ?_
    refine z_callV0 (rest := []) S (c_X6_add t 6 (14 + 16 * t + 6) (show t < 8 by omega) (show 6 < 16 by decide) (by omega) mn (z (14 + 16 * t + 6)) ((upd_ne (by omega)).trans ((upd_ne (by omega)).trans (rfl)))) qm_X6_51 v_X6_add ⟨Nat.le_of_ble_eq_true rfl, Nat.le_of_ble_eq_true rfl⟩ rfl rfl hN hK hP hD hS hA (0) (mo_0) rfl rfl hl.1 rfl (Nat.le_of_ble_eq_true rfl) dX6_deals_62 ⟨Nat.le_of_ble_eq_true rfl, Nat.le_of_ble_eq_true rfl⟩ (fun H locs hP hD hS => ?_)
    refine lv_aload_n hx hb dX6_deals_65 rfl (lv_at hl 3 rfl) ?_
    refine lv_iload_n hx hb dX6_deals_66 rfl (lv_at hl 5 rfl) ?_
    refine lv_iconst (v := 4) hx hb dX6_deals_67 (by decide) ?_
    refine lv_iconst (v := 1) hx hb dX6_deals_68 (by decide) ?_
    refine z_callV0 (rest := []) S (c_X6_put t 4 (14 + 16 * t + 4) (show t < 8 by omega) (show 4 < 16 by decide) (by omega) 1) qm_X6_61 v_X6_put ⟨Nat.le_of_ble_eq_true rfl, Nat.le_of_ble_eq_true rfl⟩ rfl rfl hN hK hP hD hS hA (0) (mo_0) rfl rfl hl.1 rfl (Nat.le_of_ble_eq_true rfl) dX6_deals_69 ⟨Nat.le_of_ble_eq_true rfl, Nat.le_of_ble_eq_true rfl⟩ (fun H locs hP hD hS => ?_)
    refine lv_aload_n hx hb dX6_deals_72 rfl (lv_at hl 3 rfl) ?_
    refine lv_iload_n hx hb dX6_deals_73 rfl (lv_at hl 4 rfl) ?_
    refine lv_iconst (v := 1) hx hb dX6_deals_74 (by decide) ?_
    refine lv_iload hx hb dX6_deals_75 (lv_at hl 2 rfl) ?_
    refine lv_iload hx hb dX6_deals_77 (lv_at hl 0 rfl) ?_
    refine lv_isub hx hb dX6_deals_79  ?_
    refine z_callV0 (rest := []) S (c_X6_add g 1 (14 + 16 * g + 1) (show g < 8 by omega) (show 1 < 16 by decide) (by omega) ((valP (z (25 + 16 * g + k)) mn) - (minP ((valP (z (25 + 16 * g + k)) mn) / 2) (z (14 + 16 * g + 2)))) (z (14 + 16 * g + 1)) ((upd_ne (by omega)).trans ((upd_ne (by omega)).trans ((upd_ne (by omega)).trans ((upd_ne (by omega)).trans (rfl)))))) qm_X6_51 v_X6_add ⟨Nat.le_of_ble_eq_true rfl, Nat.le_of_ble_eq_true rfl⟩ rfl rfl hN hK hP hD hS hA (0) (mo_0) rfl rfl hl.1 rfl (Nat.le_of_ble_eq_true rfl) dX6_deals_80 ⟨Nat.le_of_ble_eq_true rfl, Nat.le_of_ble_eq_true rfl⟩ (fun H locs hP hD hS => ?_)
    refine lv_aload_n hx hb dX6_deals_83 rfl (lv_at hl 3 rfl) ?_
    refine lv_iload_n hx hb dX6_deals_84 rfl (lv_at hl 4 rfl) ?_
    refine lv_iconst (v := 2) hx hb dX6_deals_85 (by decide) ?_
    refine lv_iload hx hb dX6_deals_86 (lv_at hl 0 rfl) ?_
    refine lv_ineg hx hb dX6_deals_88 ?_
    refine z_callV0 (rest := []) S (c_X6_add g 2 (14 + 16 * g + 2) (show g < 8 by omega) (show 2 < 16 by decide) (by omega) (-(minP ((valP (z (25 + 16 * g + k)) mn) / 2) (z (14 + 16 * g + 2)))) (z (14 + 16 * g + 2)) ((upd_ne (by omega)).trans ((upd_ne (by omega)).trans ((upd_ne (by omega)).trans ((upd_ne (by omega)).trans ((upd_ne (by omega)).trans (rfl))))))) qm_X6_51 v_X6_add ⟨Nat.le_of_ble_eq_true rfl, Nat.le_of_ble_eq_true rfl⟩ rfl rfl hN hK hP hD hS hA (0) (mo_0) rfl rfl hl.1 rfl (Nat.le_of_ble_eq_true rfl) dX6_deals_89 ⟨Nat.le_of_ble_eq_true rfl, Nat.le_of_ble_eq_true rfl⟩ (fun H locs hP hD hS => ?_)
    refine lv_aload_n hx hb dX6_deals_92 rfl (lv_at hl 3 rfl) ?_
    refine va_get (v := .ref (q 1)) hx hb hts inTX6 hown hK hP (0) (mo_0) rfl 0 (by decide) (hts _ qf_X6_7) (fun _ h9 => h9) (rfl) dX6_deals_93 ?_
    refine lv_bipush (v := 6) hx hb dX6_deals_96 (by decide) ?_
    refine lv_dup2_11 hx hb dX6_deals_98 rfl rfl ?_
    refine va_iald hx hb hK hP (1) 0 (mo_1) rfl (vp_in_nI (show 6 < 142 by decide) (by omega)) dX6_deals_99 ?_
    refine z_top (v2 := .int (z 6)) (congrArg Value.int (((congrArg (zfn (upd (upd (upd (upd (upd (upd z (14 + 16 * t + 1) ((z (14 + 16 * t + 1)) + (-(valP (z (25 + 16 * g + k)) mn)))) (14 + 16 * t + 8) ((z (14 + 16 * t + 8)) + (valP (z (25 + 16 * g + k)) mn))) (14 + 16 * t + 6) ((z (14 + 16 * t + 6)) + mn)) (14 + 16 * t + 4) 1) (14 + 16 * g + 1) ((z (14 + 16 * g + 1)) + ((valP (z (25 + 16 * g + k)) mn) - (minP ((valP (z (25 + 16 * g + k)) mn) / 2) (z (14 + 16 * g + 2)))))) (14 + 16 * g + 2) ((z (14 + 16 * g + 2)) + (-(minP ((valP (z (25 + 16 * g + k)) mn) / 2) (z (14 + 16 * g + 2))))))) (z_cl (k := 6) rfl)).trans (zfn_at (by omega))).trans ((upd_ne (by omega)).trans ((upd_ne (by omega)).trans ((upd_ne (by omega)).trans ((upd_ne (by omega)).trans ((upd_ne (by omega)).trans ((upd_ne (by omega)).trans (rfl))))))))) ?_
    refine lv_iload hx hb dX6_deals_100 (lv_at hl 0 rfl) ?_
    refine lv_iadd hx hb dX6_deals_102  ?_
    refine z_iast (ws2 := moW cI q (upd (upd (upd (upd (upd (upd (upd z (14 + 16 * t + 1) ((z (14 + 16 * t + 1)) + (-(valP (z (25 + 16 * g + k)) mn)))) (14 + 16 * t + 8) ((z (14 + 16 * t + 8)) + (valP (z (25 + 16 * g + k)) mn))) (14 + 16 * t + 6) ((z (14 + 16 * t + 6)) + mn)) (14 + 16 * t + 4) 1) (14 + 16 * g + 1) ((z (14 + 16 * g + 1)) + ((valP (z (25 + 16 * g + k)) mn) - (minP ((valP (z (25 + 16 * g + k)) mn) / 2) (z (14 + 16 * g + 2)))))) (14 + 16 * g + 2) ((z (14 + 16 * g + 2)) + (-(minP ((valP (z (25 + 16 * g + k)) mn) / 2) (z (14 + 16 * g + 2)))))) 6 ((z 6) + (minP ((valP (z (25 + 16 * g + k)) mn) / 2) (z (14 + 16 * g + 2))))) hi tx pa ke mr hs wr) hx hb hK hP hD hS (1) 0 (mo_1) rfl (vp_in_nI (show 6 < 142 by decide) (by omega)) dX6_deals_103 (mo_w1 (z_cl (k := 6) rfl) (by omega)) (fun H locs hP hD hS => ?_)
    refine lv_aload_n hx hb dX6_deals_104 rfl (lv_at hl 3 rfl) ?_
    refine lv_iload_n hx hb dX6_deals_105 rfl (lv_at hl 4 rfl) ?_
    refine lv_bipush (v := 7) hx hb dX6_deals_106 (by decide) ?_
    refine lv_iload hx hb dX6_deals_108 (lv_at hl 2 rfl) ?_
    refine z_callV0 (rest := []) S (c_X6_add g 7 (14 + 16 * g + 7) (show g < 8 by omega) (show 7 < 16 by decide) (by omega) (valP (z (25 + 16 * g + k)) mn) (z (14 + 16 * g + 7)) ((upd_ne (by omega)).trans ((upd_ne (by omega)).trans ((upd_ne (by omega)).trans ((upd_ne (by omega)).trans ((upd_ne (by omega)).trans ((upd_ne (by omega)).trans ((upd_ne (by omega)).trans (rfl))))))))) qm_X6_51 v_X6_add ⟨Nat.le_of_ble_eq_true rfl, Nat.le_of_ble_eq_true rfl⟩ rfl rfl hN hK hP hD hS hA (0) (mo_0) rfl rfl hl.1 rfl (Nat.le_of_ble_eq_true rfl) dX6_deals_110 ⟨Nat.le_of_ble_eq_true rfl, Nat.le_of_ble_eq_true rfl⟩ (fun H locs hP hD hS => ?_)
    refine lv_aload_n hx hb dX6_deals_113 rfl (lv_at hl 3 rfl) ?_
    refine lv_iload_n hx hb dX6_deals_114 rfl (lv_at hl 4 rfl) ?_
    refine lv_iconst (v := 5) hx hb dX6_deals_115 (by decide) ?_
    refine lv_iload hx hb dX6_deals_116 (lv_at hl 7 rfl) ?_
    refine z_callV0 (rest := []) S (c_X6_add g 5 (14 + 16 * g + 5) (show g < 8 by omega) (show 5 < 16 by decide) (by omega) mn (z (14 + 16 * g + 5)) ((upd_ne (by omega)).trans ((upd_ne (by omega)).trans ((upd_ne (by omega)).trans ((upd_ne (by omega)).trans ((upd_ne (by omega)).trans ((upd_ne (by omega)).trans ((upd_ne (by omega)).trans ((upd_ne (by omega)).trans (rfl)))))))))) qm_X6_51 v_X6_add ⟨Nat.le_of_ble_eq_true rfl, Nat.le_of_ble_eq_true rfl⟩ rfl rfl hN hK hP hD hS hA (0) (mo_0) rfl rfl hl.1 rfl (Nat.le_of_ble_eq_true rfl) dX6_deals_118 ⟨Nat.le_of_ble_eq_true rfl, Nat.le_of_ble_eq_true rfl⟩ (fun H locs hP hD hS => ?_)
    refine lv_aload_n hx hb dX6_deals_121 rfl (lv_at hl 3 rfl) ?_
    refine lv_iload_n hx hb dX6_deals_122 rfl (lv_at hl 4 rfl) ?_
    refine lv_iconst (v := 4) hx hb dX6_deals_123 (by decide) ?_
    refine lv_iconst (v := 1) hx hb dX6_deals_124 (by decide) ?_
    refine z_callV0 (rest := []) S (c_X6_put g 4 (14 + 16 * g + 4) (show g < 8 by omega) (show 4 < 16 by decide) (by omega) 1) qm_X6_61 v_X6_put ⟨Nat.le_of_ble_eq_true rfl, Nat.le_of_ble_eq_true rfl⟩ rfl rfl hN hK hP hD hS hA (0) (mo_0) rfl rfl hl.1 rfl (Nat.le_of_ble_eq_true rfl) dX6_deals_125 ⟨Nat.le_of_ble_eq_true rfl, Nat.le_of_ble_eq_true rfl⟩ (fun H locs hP hD hS => ?_)
    refine lv_aload_n hx hb dX6_deals_128 rfl (lv_at hl 3 rfl) ?_
    refine lv_iload_n hx hb dX6_deals_129 rfl (lv_at hl 4 rfl) ?_
    refine lv_bipush (v := 11) hx hb dX6_deals_130 (by decide) ?_
    refine lv_iload_n hx hb dX6_deals_132 rfl (lv_at hl 6 rfl) ?_
    refine lv_iadd hx hb dX6_deals_133  ?_
    refine z_top (v2 := .int (nI (11 + k))) (congrArg Value.int (nI_add 11 k)) ?_
    refine z_callV1 (rest := []) S (c_X6_of g (11 + k) (25 + 16 * g + k) (show g < 8 by omega) (show 11 + k < 16 by omega) (by omega) (z (25 + 16 * g + k)) ((upd_ne (by omega)).trans ((upd_ne (by omega)).trans ((upd_ne (by omega)).trans ((upd_ne (by omega)).trans ((upd_ne (by omega)).trans ((upd_ne (by omega)).trans ((upd_ne (by omega)).trans ((upd_ne (by omega)).trans ((upd_ne (by omega)).trans ((upd_ne (by omega)).trans (rfl)))))))))))) qm_X6_36 v_X6_of ⟨Nat.le_of_ble_eq_true rfl, Nat.le_of_ble_eq_true rfl⟩ rfl rfl hN hK hP hD hS hA (0) (mo_0) rfl rfl hl.1 rfl (Nat.le_of_ble_eq_true rfl) dX6_deals_134 ⟨Nat.le_of_ble_eq_true rfl, Nat.le_of_ble_eq_true rfl⟩ (fun H locs hP hD hS => ?_)
    refine lv_iload hx hb dX6_deals_137 (lv_at hl 7 rfl) ?_
    refine lv_iadd hx hb dX6_deals_139  ?_
    refine lv_istore (lv' := [(8, .int ((z (25 + 16 * g + k)) + mn)), (7, .int (minP ((valP (z (25 + 16 * g + k)) mn) / 2) (z (14 + 16 * g + 2)))), (6, .int (z (14 + 16 * g + 2))), (5, .int (valP (z (25 + 16 * g + k)) mn)), (0, .ref (q 0)), (1, .int (nI g)), (2, .int (nI t)), (3, .int (nI k)), (4, .int mn)]) hx hb dX6_deals_140 hl (by decide) rfl (fun ls hl => ?_)
    refine lv_aload_n hx hb dX6_deals_142 rfl (lv_at hl 4 rfl) ?_
    refine lv_iload_n hx hb dX6_deals_143 rfl (lv_at hl 5 rfl) ?_
    refine lv_bipush (v := 11) hx hb dX6_deals_144 (by decide) ?_
    refine lv_iload_n hx hb dX6_deals_146 rfl (lv_at hl 7 rfl) ?_
    refine lv_iadd hx hb dX6_deals_147  ?_
    refine z_top (v2 := .int (nI (11 + k))) (congrArg Value.int (nI_add 11 k)) ?_
    refine lv_iload hx hb dX6_deals_148 (lv_at hl 0 rfl) ?_
    refine lv_sipush (v := 9999) hx hb dX6_deals_150 (by decide) ?_
    refine lv_icmp_le (tgt := 162) hx hb dX6_deals_153 (by decide) (fun c3 => ?_) (fun c3 => ?_)
    · have c3 := z_nlt c3
      refine lv_iload hx hb dX6_deals_162 (lv_at hl 0 rfl) ?_
      refine z_top (v2 := .int (minP (z (25 + 16 * g + k) + mn) 9999)) (congrArg Value.int (minP_d c3)) ?_
      refine z_callV0 (rest := []) S (c_X6_put g (11 + k) (25 + 16 * g + k) (show g < 8 by omega) (show 11 + k < 16 by omega) (by omega) (minP (z (25 + 16 * g + k) + mn) 9999)) qm_X6_61 v_X6_put ⟨Nat.le_of_ble_eq_true rfl, Nat.le_of_ble_eq_true rfl⟩ rfl rfl hN hK hP hD hS hA (0) (mo_0) rfl rfl hl.1 rfl (Nat.le_of_ble_eq_true rfl) dX6_deals_164 ⟨Nat.le_of_ble_eq_true rfl, Nat.le_of_ble_eq_true rfl⟩ (fun H locs hP hD hS => ?_)
      refine lv_aload_n hx hb dX6_deals_167 rfl (lv_at hl 4 rfl) ?_
      refine va_get (v := .ref (q 1)) hx hb hts inTX6 hown hK hP (0) (mo_0) rfl 0 (by decide) (hts _ qf_X6_7) (fun _ h9 => h9) (rfl) dX6_deals_168 ?_
      refine lv_bipush (v := 9) hx hb dX6_deals_171 (by decide) ?_
      refine lv_dup2_11 hx hb dX6_deals_173 rfl rfl ?_
      refine va_iald hx hb hK hP (1) 0 (mo_1) rfl (vp_in_nI (show 9 < 142 by decide) (by omega)) dX6_deals_174 ?_
      refine z_top (v2 := .int (z 9)) (congrArg Value.int (((congrArg (zfn (upd (upd (upd (upd (upd (upd (upd (upd (upd (upd (upd z (14 + 16 * t + 1) ((z (14 + 16 * t + 1)) + (-(valP (z (25 + 16 * g + k)) mn)))) (14 + 16 * t + 8) ((z (14 + 16 * t + 8)) + (valP (z (25 + 16 * g + k)) mn))) (14 + 16 * t + 6) ((z (14 + 16 * t + 6)) + mn)) (14 + 16 * t + 4) 1) (14 + 16 * g + 1) ((z (14 + 16 * g + 1)) + ((valP (z (25 + 16 * g + k)) mn) - (minP ((valP (z (25 + 16 * g + k)) mn) / 2) (z (14 + 16 * g + 2)))))) (14 + 16 * g + 2) ((z (14 + 16 * g + 2)) + (-(minP ((valP (z (25 + 16 * g + k)) mn) / 2) (z (14 + 16 * g + 2)))))) 6 ((z 6) + (minP ((valP (z (25 + 16 * g + k)) mn) / 2) (z (14 + 16 * g + 2))))) (14 + 16 * g + 7) ((z (14 + 16 * g + 7)) + (valP (z (25 + 16 * g + k)) mn))) (14 + 16 * g + 5) ((z (14 + 16 * g + 5)) + mn)) (14 + 16 * g + 4) 1) (25 + 16 * g + k) (minP (z (25 + 16 * g + k) + mn) 9999))) (z_cl (k := 9) rfl)).trans (zfn_at (by omega))).trans ((upd_ne (by omega)).trans ((upd_ne (by omega)).trans ((upd_ne (by omega)).trans ((upd_ne (by omega)).trans ((upd_ne (by omega)).trans ((upd_ne (by omega)).trans ((upd_ne (by omega)).trans ((upd_ne (by omega)).trans ((upd_ne (by omega)).trans ((upd_ne (by omega)).trans ((upd_ne (by omega)).trans (rfl)))))))))))))) ?_
      refine lv_iconst (v := 1) hx hb dX6_deals_175 (by decide) ?_
      refine lv_iadd hx hb dX6_deals_176  ?_
      refine z_iast (ws2 := moW cI q (upd (upd (upd (upd (upd (upd (upd (upd (upd (upd (upd (upd z (14 + 16 * t + 1) ((z (14 + 16 * t + 1)) + (-(valP (z (25 + 16 * g + k)) mn)))) (14 + 16 * t + 8) ((z (14 + 16 * t + 8)) + (valP (z (25 + 16 * g + k)) mn))) (14 + 16 * t + 6) ((z (14 + 16 * t + 6)) + mn)) (14 + 16 * t + 4) 1) (14 + 16 * g + 1) ((z (14 + 16 * g + 1)) + ((valP (z (25 + 16 * g + k)) mn) - (minP ((valP (z (25 + 16 * g + k)) mn) / 2) (z (14 + 16 * g + 2)))))) (14 + 16 * g + 2) ((z (14 + 16 * g + 2)) + (-(minP ((valP (z (25 + 16 * g + k)) mn) / 2) (z (14 + 16 * g + 2)))))) 6 ((z 6) + (minP ((valP (z (25 + 16 * g + k)) mn) / 2) (z (14 + 16 * g + 2))))) (14 + 16 * g + 7) ((z (14 + 16 * g + 7)) + (valP (z (25 + 16 * g + k)) mn))) (14 + 16 * g + 5) ((z (14 + 16 * g + 5)) + mn)) (14 + 16 * g + 4) 1) (25 + 16 * g + k) (minP (z (25 + 16 * g + k) + mn) 9999)) 9 ((z 9) + 1)) hi tx pa ke mr hs wr) hx hb hK hP hD hS (1) 0 (mo_1) rfl (vp_in_nI (show 9 < 142 by decide) (by omega)) dX6_deals_177 (mo_w1 (z_cl (k := 9) rfl) (by omega)) (fun H locs hP hD hS => ?_)
      refine lv_iload hx hb dX6_deals_178 (lv_at hl 3 rfl) ?_
      exact z_iret hx hb hr hlocks hP hD hK hS (rfl) (by first | rfl | (simp only [minP, maxP, c1, c3, not_true_eq_false, not_false_eq_true, and_self, and_true, true_and, and_false, false_and, or_true, true_or, or_false, false_or, if_true, if_false, ite_true, ite_false]; done) | (simp [minP, maxP, c1, c3]; done) | (simp_all [minP, maxP]; done)) dX6_deals_180
    · have c3 := z_lt c3
      refine lv_sipush (v := 9999) hx hb dX6_deals_156 (by decide) ?_
      refine z_top (v2 := .int (minP (z (25 + 16 * g + k) + mn) 9999)) (congrArg Value.int (minP_c c3)) ?_
      refine lv_goto (tgt := 164) hx hb dX6_deals_159 (by decide) ?_
      refine z_callV0 (rest := []) S (c_X6_put g (11 + k) (25 + 16 * g + k) (show g < 8 by omega) (show 11 + k < 16 by omega) (by omega) (minP (z (25 + 16 * g + k) + mn) 9999)) qm_X6_61 v_X6_put ⟨Nat.le_of_ble_eq_true rfl, Nat.le_of_ble_eq_true rfl⟩ rfl rfl hN hK hP hD hS hA (0) (mo_0) rfl rfl hl.1 rfl (Nat.le_of_ble_eq_true rfl) dX6_deals_164 ⟨Nat.le_of_ble_eq_true rfl, Nat.le_of_ble_eq_true rfl⟩ (fun H locs hP hD hS => ?_)
      refine lv_aload_n hx hb dX6_deals_167 rfl (lv_at hl 4 rfl) ?_
      refine va_get (v := .ref (q 1)) hx hb hts inTX6 hown hK hP (0) (mo_0) rfl 0 (by decide) (hts _ qf_X6_7) (fun _ h9 => h9) (rfl) dX6_deals_168 ?_
      refine lv_bipush (v := 9) hx hb dX6_deals_171 (by decide) ?_
      refine lv_dup2_11 hx hb dX6_deals_173 rfl rfl ?_
      refine va_iald hx hb hK hP (1) 0 (mo_1) rfl (vp_in_nI (show 9 < 142 by decide) (by omega)) dX6_deals_174 ?_
      refine z_top (v2 := .int (z 9)) (congrArg Value.int (((congrArg (zfn (upd (upd (upd (upd (upd (upd (upd (upd (upd (upd (upd z (14 + 16 * t + 1) ((z (14 + 16 * t + 1)) + (-(valP (z (25 + 16 * g + k)) mn)))) (14 + 16 * t + 8) ((z (14 + 16 * t + 8)) + (valP (z (25 + 16 * g + k)) mn))) (14 + 16 * t + 6) ((z (14 + 16 * t + 6)) + mn)) (14 + 16 * t + 4) 1) (14 + 16 * g + 1) ((z (14 + 16 * g + 1)) + ((valP (z (25 + 16 * g + k)) mn) - (minP ((valP (z (25 + 16 * g + k)) mn) / 2) (z (14 + 16 * g + 2)))))) (14 + 16 * g + 2) ((z (14 + 16 * g + 2)) + (-(minP ((valP (z (25 + 16 * g + k)) mn) / 2) (z (14 + 16 * g + 2)))))) 6 ((z 6) + (minP ((valP (z (25 + 16 * g + k)) mn) / 2) (z (14 + 16 * g + 2))))) (14 + 16 * g + 7) ((z (14 + 16 * g + 7)) + (valP (z (25 + 16 * g + k)) mn))) (14 + 16 * g + 5) ((z (14 + 16 * g + 5)) + mn)) (14 + 16 * g + 4) 1) (25 + 16 * g + k) (minP (z (25 + 16 * g + k) + mn) 9999))) (z_cl (k := 9) rfl)).trans (zfn_at (by omega))).trans ((upd_ne (by omega)).trans ((upd_ne (by omega)).trans ((upd_ne (by omega)).trans ((upd_ne (by omega)).trans ((upd_ne (by omega)).trans ((upd_ne (by omega)).trans ((upd_ne (by omega)).trans ((upd_ne (by omega)).trans ((upd_ne (by omega)).trans ((upd_ne (by omega)).trans ((upd_ne (by omega)).trans (rfl)))))))))))))) ?_
      refine lv_iconst (v := 1) hx hb dX6_deals_175 (by decide) ?_
      refine lv_iadd hx hb dX6_deals_176  ?_
      refine z_iast (ws2 := moW cI q (upd (upd (upd (upd (upd (upd (upd (upd (upd (upd (upd (upd z (14 + 16 * t + 1) ((z (14 + 16 * t + 1)) + (-(valP (z (25 + 16 * g + k)) mn)))) (14 + 16 * t + 8) ((z (14 + 16 * t + 8)) + (valP (z (25 + 16 * g + k)) mn))) (14 + 16 * t + 6) ((z (14 + 16 * t + 6)) + mn)) (14 + 16 * t + 4) 1) (14 + 16 * g + 1) ((z (14 + 16 * g + 1)) + ((valP (z (25 + 16 * g + k)) mn) - (minP ((valP (z (25 + 16 * g + k)) mn) / 2) (z (14 + 16 * g + 2)))))) (14 + 16 * g + 2) ((z (14 + 16 * g + 2)) + (-(minP ((valP (z (25 + 16 * g + k)) mn) / 2) (z (14 + 16 * g + 2)))))) 6 ((z 6) + (minP ((valP (z (25 + 16 * g + k)) mn) / 2) (z (14 + 16 * g + 2))))) (14 + 16 * g + 7) ((z (14 + 16 * g + 7)) + (valP (z (25 + 16 * g + k)) mn))) (14 + 16 * g + 5) ((z (14 + 16 * g + 5)) + mn)) (14 + 16 * g + 4) 1) (25 + 16 * g + k) (minP (z (25 + 16 * g + k) + mn) 9999)) 9 ((z 9) + 1)) hi tx pa ke mr hs wr) hx hb hK hP hD hS (1) 0 (mo_1) rfl (vp_in_nI (show 9 < 142 by decide) (by omega)) dX6_deals_177 (mo_w1 (z_cl (k := 9) rfl) (by omega)) (fun H locs hP hD hS => ?_)
      refine lv_iload hx hb dX6_deals_178 (lv_at hl 3 rfl) ?_
      exact z_iret hx hb hr hlocks hP hD hK hS (rfl) (by first | rfl | (simp only [minP, maxP, c1, c3, not_true_eq_false, not_false_eq_true, and_self, and_true, true_and, and_false, false_and, or_true, true_or, or_false, false_or, if_true, if_false, ite_true, ite_false]; done) | (simp [minP, maxP, c1, c3]; done) | (simp_all [minP, maxP]; done)) dX6_deals_180
set_option maxHeartbeats 4000000 in
set_option maxRecDepth 100000 in
theorem c_X6_weekOf0 (j : Nat) (hj : j < 8) (hB : hBool z) : zM l D (zT cI cC cM cB cJ) yX6_weekOf cX6_weekOf 4 (some .int) ({ frames := 1, cells := 0, slots := 0, locals := 23 } : Room) [.ref (q 0), .int (nI j)] (moW cI q z hi tx pa ke mr hs wr) (moW cI q (wkM z j) hi tx pa ke mr hs wr) (some (.int (ewR z j))) 0 0 := by
  refine z_enter (by decide) (Nat.le_of_ble_eq_true rfl) ?_
  intro p e s m below meth c A S hr hlocks hnm hN hA hK hP hD hS ls hl
  obtain ⟨hx, hb, hml, hown, hts⟩ := id S
  have hl : lv_has ls 4 [(0, .ref (q 0)), (1, .int (nI j))] := hl
  have hP : va_P D vwCl (moW cI q z hi tx pa ke mr hs wr) s.heap := hP
  have hD : va_D A (moW cI q z hi tx pa ke mr hs wr) := hD
  refine lv_aload_n hx hb dX6_weekOf_0 rfl (lv_at hl 0 rfl) ?_
  refine lv_iload_n hx hb dX6_weekOf_1 rfl (lv_at hl 1 rfl) ?_
  refine lv_iconst (v := 3) hx hb dX6_weekOf_2 (by decide) ?_
  refine lv_aload_n hx hb dX6_weekOf_3 rfl (lv_at hl 0 rfl) ?_
  refine lv_iload_n hx hb dX6_weekOf_4 rfl (lv_at hl 1 rfl) ?_
  refine lv_iconst (v := 4) hx hb dX6_weekOf_5 (by decide) ?_
  refine z_callV1 (rest := [.int 3, .int (nI j), .ref (q 0)]) S (c_X6_of j 4 (14 + 16 * j + 4) (show j < 8 by omega) (show 4 < 16 by decide) (by omega) (z (14 + 16 * j + 4)) (rfl)) qm_X6_36 v_X6_of ⟨Nat.le_of_ble_eq_true rfl, Nat.le_of_ble_eq_true rfl⟩ rfl rfl hN hK hP hD hS hA (0) (mo_0) rfl rfl hl.1 rfl (Nat.le_of_ble_eq_true rfl) dX6_weekOf_6 ⟨Nat.le_of_ble_eq_true rfl, Nat.le_of_ble_eq_true rfl⟩ (fun H locs hP hD hS => ?_)
  refine lv_iconst (v := 1) hx hb dX6_weekOf_9 (by decide) ?_
  refine lv_icmp_ne (tgt := 17) hx hb dX6_weekOf_10 (by decide) (fun c1 => ?_) (fun c1 => ?_)
  · skip
    refine lv_aload_n hx hb dX6_weekOf_17 rfl (lv_at hl 0 rfl) ?_
    refine lv_iload_n hx hb dX6_weekOf_18 rfl (lv_at hl 1 rfl) ?_
    refine lv_iconst (v := 3) hx hb dX6_weekOf_19 (by decide) ?_
    refine z_callV1 (rest := [.int 3, .int (nI j), .ref (q 0)]) S (c_X6_of j 3 (14 + 16 * j + 3) (show j < 8 by omega) (show 3 < 16 by decide) (by omega) (z (14 + 16 * j + 3)) (rfl)) qm_X6_36 v_X6_of ⟨Nat.le_of_ble_eq_true rfl, Nat.le_of_ble_eq_true rfl⟩ rfl rfl hN hK hP hD hS hA (0) (mo_0) rfl rfl hl.1 rfl (Nat.le_of_ble_eq_true rfl) dX6_weekOf_20 ⟨Nat.le_of_ble_eq_true rfl, Nat.le_of_ble_eq_true rfl⟩ (fun H locs hP hD hS => ?_)
    refine lv_iconst (v := 1) hx hb dX6_weekOf_23 (by decide) ?_
    refine lv_iadd hx hb dX6_weekOf_24  ?_
    refine z_top (v2 := .int (idlP z j)) (congrArg Value.int (idl_b (hB j hj).2 c1)) ?_
    refine z_callV0 (rest := []) S (c_X6_put j 3 (14 + 16 * j + 3) (show j < 8 by omega) (show 3 < 16 by decide) (by omega) (idlP z j)) qm_X6_61 v_X6_put ⟨Nat.le_of_ble_eq_true rfl, Nat.le_of_ble_eq_true rfl⟩ rfl rfl hN hK hP hD hS hA (0) (mo_0) rfl rfl hl.1 rfl (Nat.le_of_ble_eq_true rfl) dX6_weekOf_25 ⟨Nat.le_of_ble_eq_true rfl, Nat.le_of_ble_eq_true rfl⟩ (fun H locs hP hD hS => ?_)
    refine lv_aload_n hx hb dX6_weekOf_28 rfl (lv_at hl 0 rfl) ?_
    refine lv_iload_n hx hb dX6_weekOf_29 rfl (lv_at hl 1 rfl) ?_
    refine lv_iconst (v := 4) hx hb dX6_weekOf_30 (by decide) ?_
    refine lv_iconst (v := 0) hx hb dX6_weekOf_31 (by decide) ?_
    refine z_callV0 (rest := []) S (c_X6_put j 4 (14 + 16 * j + 4) (show j < 8 by omega) (show 4 < 16 by decide) (by omega) 0) qm_X6_61 v_X6_put ⟨Nat.le_of_ble_eq_true rfl, Nat.le_of_ble_eq_true rfl⟩ rfl rfl hN hK hP hD hS hA (0) (mo_0) rfl rfl hl.1 rfl (Nat.le_of_ble_eq_true rfl) dX6_weekOf_32 ⟨Nat.le_of_ble_eq_true rfl, Nat.le_of_ble_eq_true rfl⟩ (fun H locs hP hD hS => ?_)
    refine lv_aload_n hx hb dX6_weekOf_35 rfl (lv_at hl 0 rfl) ?_
    refine lv_iload_n hx hb dX6_weekOf_36 rfl (lv_at hl 1 rfl) ?_
    refine lv_iconst (v := 3) hx hb dX6_weekOf_37 (by decide) ?_
    refine z_callV1 (rest := []) S (c_X6_of j 3 (14 + 16 * j + 3) (show j < 8 by omega) (show 3 < 16 by decide) (by omega) (idlP z j) ((upd_ne (by omega)).trans (upd_eq rfl))) qm_X6_36 v_X6_of ⟨Nat.le_of_ble_eq_true rfl, Nat.le_of_ble_eq_true rfl⟩ rfl rfl hN hK hP hD hS hA (0) (mo_0) rfl rfl hl.1 rfl (Nat.le_of_ble_eq_true rfl) dX6_weekOf_38 ⟨Nat.le_of_ble_eq_true rfl, Nat.le_of_ble_eq_true rfl⟩ (fun H locs hP hD hS => ?_)
    refine lv_aload_n hx hb dX6_weekOf_41 rfl (lv_at hl 0 rfl) ?_
    refine va_get (v := .ref (q 1)) hx hb hts inTX6 hown hK hP (0) (mo_0) rfl 0 (by decide) (hts _ qf_X6_7) (fun _ h9 => h9) (rfl) dX6_weekOf_42 ?_
    refine lv_iconst (v := 2) hx hb dX6_weekOf_45 (by decide) ?_
    refine va_iald hx hb hK hP (1) 0 (mo_1) rfl (vp_in_nI (show 2 < 142 by decide) (by omega)) dX6_weekOf_46 ?_
    refine z_top (v2 := .int (z 2)) (congrArg Value.int (((congrArg (zfn (upd (upd z (14 + 16 * j + 3) (idlP z j)) (14 + 16 * j + 4) 0)) (z_cl (k := 2) rfl)).trans (zfn_at (by omega))).trans ((upd_ne (by omega)).trans ((upd_ne (by omega)).trans (rfl))))) ?_
    refine lv_icmp_gt (tgt := 52) hx hb dX6_weekOf_47 (by decide) (fun c2 => ?_) (fun c2 => ?_)
    · skip
      refine lv_iconst (v := 0) hx hb dX6_weekOf_52 (by decide) ?_
      refine lv_istore_n (lv' := [(2, .int 0), (0, .ref (q 0)), (1, .int (nI j))]) hx hb dX6_weekOf_53 rfl hl (by decide) rfl (fun ls hl => ?_)
      have K54 : ∀ (n54 i : Nat), i + n54 = 5 → ∀ (H : Heap) (locs : List Loc), va_P D vwCl (moW cI q (rustZ (upd (upd z (14 + 16 * j + 3) (idlP z j)) (14 + 16 * j + 4) 0) j (z 4) i) hi tx pa ke mr hs wr) H → va_D A (moW cI q (rustZ (upd (upd z (14 + 16 * j + 3) (idlP z j)) (14 + 16 * j + 4) 0) j (z 4) i) hi tx pa ke mr hs wr) → va_S A s.heap H locs → ∀ ls : Array Slot, lv_has ls 4 [(0, .ref (q 0)), (1, .int (nI j)), (2, .int (nI i))] → W p l e ({ frames := 1, cells := 0, slots := 0, locals := 23 } : Room) s m ([.ref (q 0), .int (nI j)] : List Value).toArray below meth c H locs 0 0 (MQ below (zQ D (zT cI cC cM cB cJ) (moW cI q (wkM z j) hi tx pa ke mr hs wr) (some (.int (ewR z j))) A) ([.ref (q 0), .int (nI j)] : List Value).toArray s 0 0 A) (F0 m 54 ls []) := by
        intro n54
        induction n54 with
        | zero =>
          intro i h_i H locs hP hD hS ls hl
          have ei : 5 = i := by omega
          subst ei
          refine lv_iload_n hx hb dX6_weekOf_54 rfl (lv_at hl 2 rfl) ?_
          refine lv_iconst (v := 5) hx hb dX6_weekOf_55 (by decide) ?_
          refine lv_icmp_ge (tgt := 100) hx hb dX6_weekOf_56 (by decide) (fun c3 => ?_) (fun c3 => absurd (nI_le (a := 5) (b := 5) (by omega) (by omega)) c3)
          have c3 := z_nlt c3
          refine lv_aload_n hx hb dX6_weekOf_100 rfl (lv_at hl 0 rfl) ?_
          refine lv_iload_n hx hb dX6_weekOf_101 rfl (lv_at hl 1 rfl) ?_
          refine lv_iconst (v := 1) hx hb dX6_weekOf_102 (by decide) ?_
          refine z_callV1 (rest := []) S (c_X6_of j 1 (14 + 16 * j + 1) (show j < 8 by omega) (show 1 < 16 by decide) (by omega) (z (14 + 16 * j + 1)) ((rustZ_at _ (by omega)).trans ((upd_ne (by omega)).trans (upd_ne (by omega))))) qm_X6_36 v_X6_of ⟨Nat.le_of_ble_eq_true rfl, Nat.le_of_ble_eq_true rfl⟩ rfl rfl hN hK hP hD hS hA (0) (mo_0) rfl rfl hl.1 rfl (Nat.le_of_ble_eq_true rfl) dX6_weekOf_103 ⟨Nat.le_of_ble_eq_true rfl, Nat.le_of_ble_eq_true rfl⟩ (fun H locs hP hD hS => ?_)
          refine lv_if_le (tgt := 128) hx hb dX6_weekOf_106 (by decide) (fun c4 => ?_) (fun c4 => ?_)
          · have c4 := z_nlt c4
            refine lv_iconst (v := 0) hx hb dX6_weekOf_128 (by decide) ?_
            refine z_top (v2 := .int (decP (z (14 + 16 * j + 1)) (z 3))) (congrArg Value.int (decP_b c4)) ?_
            refine lv_istore_n (lv' := [(2, .int (decP (z (14 + 16 * j + 1)) (z 3))), (0, .ref (q 0)), (1, .int (nI j))]) hx hb dX6_weekOf_129 rfl hl (by decide) rfl (fun ls hl => ?_)
            refine lv_aload_n hx hb dX6_weekOf_130 rfl (lv_at hl 1 rfl) ?_
            refine lv_iload_n hx hb dX6_weekOf_131 rfl (lv_at hl 2 rfl) ?_
            refine lv_iconst (v := 1) hx hb dX6_weekOf_132 (by decide) ?_
            refine lv_iload_n hx hb dX6_weekOf_133 rfl (lv_at hl 0 rfl) ?_
            refine lv_ineg hx hb dX6_weekOf_134 ?_
            refine z_callV0 (rest := []) S (c_X6_add j 1 (14 + 16 * j + 1) (show j < 8 by omega) (show 1 < 16 by decide) (by omega) (-(decP (z (14 + 16 * j + 1)) (z 3))) (z (14 + 16 * j + 1)) ((rustZ_at _ (by omega)).trans ((upd_ne (by omega)).trans (upd_ne (by omega))))) qm_X6_51 v_X6_add ⟨Nat.le_of_ble_eq_true rfl, Nat.le_of_ble_eq_true rfl⟩ rfl rfl hN hK hP hD hS hA (0) (mo_0) rfl rfl hl.1 rfl (Nat.le_of_ble_eq_true rfl) dX6_weekOf_135 ⟨Nat.le_of_ble_eq_true rfl, Nat.le_of_ble_eq_true rfl⟩ (fun H locs hP hD hS => ?_)
            refine lv_aload_n hx hb dX6_weekOf_138 rfl (lv_at hl 1 rfl) ?_
            refine lv_iload_n hx hb dX6_weekOf_139 rfl (lv_at hl 2 rfl) ?_
            refine lv_bipush (v := 9) hx hb dX6_weekOf_140 (by decide) ?_
            refine lv_iload_n hx hb dX6_weekOf_142 rfl (lv_at hl 0 rfl) ?_
            refine z_callV0 (rest := []) S (c_X6_add j 9 (14 + 16 * j + 9) (show j < 8 by omega) (show 9 < 16 by decide) (by omega) (decP (z (14 + 16 * j + 1)) (z 3)) (z (14 + 16 * j + 9)) ((upd_ne (by omega)).trans ((rustZ_at _ (by omega)).trans ((upd_ne (by omega)).trans (upd_ne (by omega)))))) qm_X6_51 v_X6_add ⟨Nat.le_of_ble_eq_true rfl, Nat.le_of_ble_eq_true rfl⟩ rfl rfl hN hK hP hD hS hA (0) (mo_0) rfl rfl hl.1 rfl (Nat.le_of_ble_eq_true rfl) dX6_weekOf_143 ⟨Nat.le_of_ble_eq_true rfl, Nat.le_of_ble_eq_true rfl⟩ (fun H locs hP hD hS => ?_)
            refine lv_aload_n hx hb dX6_weekOf_146 rfl (lv_at hl 1 rfl) ?_
            refine va_get (v := .ref (q 1)) hx hb hts inTX6 hown hK hP (0) (mo_0) rfl 0 (by decide) (hts _ qf_X6_7) (fun _ h9 => h9) (rfl) dX6_weekOf_147 ?_
            refine lv_bipush (v := 6) hx hb dX6_weekOf_150 (by decide) ?_
            refine lv_dup2_11 hx hb dX6_weekOf_152 rfl rfl ?_
            refine va_iald hx hb hK hP (1) 0 (mo_1) rfl (vp_in_nI (show 6 < 142 by decide) (by omega)) dX6_weekOf_153 ?_
            refine z_top (v2 := .int (z 6)) (congrArg Value.int (((congrArg (zfn (upd (upd (rustZ (upd (upd z (14 + 16 * j + 3) (idlP z j)) (14 + 16 * j + 4) 0) j (z 4) 5) (14 + 16 * j + 1) ((z (14 + 16 * j + 1)) + (-(decP (z (14 + 16 * j + 1)) (z 3))))) (14 + 16 * j + 9) ((z (14 + 16 * j + 9)) + (decP (z (14 + 16 * j + 1)) (z 3))))) (z_cl (k := 6) rfl)).trans (zfn_at (by omega))).trans ((upd_ne (by omega)).trans ((upd_ne (by omega)).trans ((rustZ_at _ (by omega)).trans ((upd_ne (by omega)).trans (upd_ne (by omega)))))))) ?_
            refine lv_iload_n hx hb dX6_weekOf_154 rfl (lv_at hl 0 rfl) ?_
            refine lv_iadd hx hb dX6_weekOf_155  ?_
            refine z_iast (ws2 := moW cI q (upd (upd (upd (rustZ (upd (upd z (14 + 16 * j + 3) (idlP z j)) (14 + 16 * j + 4) 0) j (z 4) 5) (14 + 16 * j + 1) ((z (14 + 16 * j + 1)) + (-(decP (z (14 + 16 * j + 1)) (z 3))))) (14 + 16 * j + 9) ((z (14 + 16 * j + 9)) + (decP (z (14 + 16 * j + 1)) (z 3)))) 6 ((z 6) + (decP (z (14 + 16 * j + 1)) (z 3)))) hi tx pa ke mr hs wr) hx hb hK hP hD hS (1) 0 (mo_1) rfl (vp_in_nI (show 6 < 142 by decide) (by omega)) dX6_weekOf_156 (mo_w1 (z_cl (k := 6) rfl) (by omega)) (fun H locs hP hD hS => ?_)
            refine lv_iload_n hx hb dX6_weekOf_157 rfl (lv_at hl 0 rfl) ?_
            exact z_iret hx hb hr hlocks hP hD hK hS (by rw [wkM, if_pos c2]) (by rw [ewR, if_pos c2]) dX6_weekOf_158
          · have c4 := z_lt c4
            refine lv_aload_n hx hb dX6_weekOf_109 rfl (lv_at hl 0 rfl) ?_
            refine lv_iload_n hx hb dX6_weekOf_110 rfl (lv_at hl 1 rfl) ?_
            refine lv_iconst (v := 1) hx hb dX6_weekOf_111 (by decide) ?_
            refine z_callV1 (rest := []) S (c_X6_of j 1 (14 + 16 * j + 1) (show j < 8 by omega) (show 1 < 16 by decide) (by omega) (z (14 + 16 * j + 1)) ((rustZ_at _ (by omega)).trans ((upd_ne (by omega)).trans (upd_ne (by omega))))) qm_X6_36 v_X6_of ⟨Nat.le_of_ble_eq_true rfl, Nat.le_of_ble_eq_true rfl⟩ rfl rfl hN hK hP hD hS hA (0) (mo_0) rfl rfl hl.1 rfl (Nat.le_of_ble_eq_true rfl) dX6_weekOf_112 ⟨Nat.le_of_ble_eq_true rfl, Nat.le_of_ble_eq_true rfl⟩ (fun H locs hP hD hS => ?_)
            refine lv_aload_n hx hb dX6_weekOf_115 rfl (lv_at hl 0 rfl) ?_
            refine va_get (v := .ref (q 1)) hx hb hts inTX6 hown hK hP (0) (mo_0) rfl 0 (by decide) (hts _ qf_X6_7) (fun _ h9 => h9) (rfl) dX6_weekOf_116 ?_
            refine lv_iconst (v := 3) hx hb dX6_weekOf_119 (by decide) ?_
            refine va_iald hx hb hK hP (1) 0 (mo_1) rfl (vp_in_nI (show 3 < 142 by decide) (by omega)) dX6_weekOf_120 ?_
            refine z_top (v2 := .int (z 3)) (congrArg Value.int (((congrArg (zfn (rustZ (upd (upd z (14 + 16 * j + 3) (idlP z j)) (14 + 16 * j + 4) 0) j (z 4) 5)) (z_cl (k := 3) rfl)).trans (zfn_at (by omega))).trans ((rustZ_at _ (by omega)).trans ((upd_ne (by omega)).trans (upd_ne (by omega)))))) ?_
            refine lv_imul hx hb dX6_weekOf_121  ?_
            refine lv_bipush (v := 100) hx hb dX6_weekOf_122 (by decide) ?_
            refine lv_idiv hx hb dX6_weekOf_124 (by decide) ?_
            refine z_top (v2 := .int (decP (z (14 + 16 * j + 1)) (z 3))) (congrArg Value.int (decP_a c4)) ?_
            refine lv_goto (tgt := 129) hx hb dX6_weekOf_125 (by decide) ?_
            refine lv_istore_n (lv' := [(2, .int (decP (z (14 + 16 * j + 1)) (z 3))), (0, .ref (q 0)), (1, .int (nI j))]) hx hb dX6_weekOf_129 rfl hl (by decide) rfl (fun ls hl => ?_)
            refine lv_aload_n hx hb dX6_weekOf_130 rfl (lv_at hl 1 rfl) ?_
            refine lv_iload_n hx hb dX6_weekOf_131 rfl (lv_at hl 2 rfl) ?_
            refine lv_iconst (v := 1) hx hb dX6_weekOf_132 (by decide) ?_
            refine lv_iload_n hx hb dX6_weekOf_133 rfl (lv_at hl 0 rfl) ?_
            refine lv_ineg hx hb dX6_weekOf_134 ?_
            refine z_callV0 (rest := []) S (c_X6_add j 1 (14 + 16 * j + 1) (show j < 8 by omega) (show 1 < 16 by decide) (by omega) (-(decP (z (14 + 16 * j + 1)) (z 3))) (z (14 + 16 * j + 1)) ((rustZ_at _ (by omega)).trans ((upd_ne (by omega)).trans (upd_ne (by omega))))) qm_X6_51 v_X6_add ⟨Nat.le_of_ble_eq_true rfl, Nat.le_of_ble_eq_true rfl⟩ rfl rfl hN hK hP hD hS hA (0) (mo_0) rfl rfl hl.1 rfl (Nat.le_of_ble_eq_true rfl) dX6_weekOf_135 ⟨Nat.le_of_ble_eq_true rfl, Nat.le_of_ble_eq_true rfl⟩ (fun H locs hP hD hS => ?_)
            refine lv_aload_n hx hb dX6_weekOf_138 rfl (lv_at hl 1 rfl) ?_
            refine lv_iload_n hx hb dX6_weekOf_139 rfl (lv_at hl 2 rfl) ?_
            refine lv_bipush (v := 9) hx hb dX6_weekOf_140 (by decide) ?_
            refine lv_iload_n hx hb dX6_weekOf_142 rfl (lv_at hl 0 rfl) ?_
            refine z_callV0 (rest := []) S (c_X6_add j 9 (14 + 16 * j + 9) (show j < 8 by omega) (show 9 < 16 by decide) (by omega) (decP (z (14 + 16 * j + 1)) (z 3)) (z (14 + 16 * j + 9)) ((upd_ne (by omega)).trans ((rustZ_at _ (by omega)).trans ((upd_ne (by omega)).trans (upd_ne (by omega)))))) qm_X6_51 v_X6_add ⟨Nat.le_of_ble_eq_true rfl, Nat.le_of_ble_eq_true rfl⟩ rfl rfl hN hK hP hD hS hA (0) (mo_0) rfl rfl hl.1 rfl (Nat.le_of_ble_eq_true rfl) dX6_weekOf_143 ⟨Nat.le_of_ble_eq_true rfl, Nat.le_of_ble_eq_true rfl⟩ (fun H locs hP hD hS => ?_)
            refine lv_aload_n hx hb dX6_weekOf_146 rfl (lv_at hl 1 rfl) ?_
            refine va_get (v := .ref (q 1)) hx hb hts inTX6 hown hK hP (0) (mo_0) rfl 0 (by decide) (hts _ qf_X6_7) (fun _ h9 => h9) (rfl) dX6_weekOf_147 ?_
            refine lv_bipush (v := 6) hx hb dX6_weekOf_150 (by decide) ?_
            refine lv_dup2_11 hx hb dX6_weekOf_152 rfl rfl ?_
            refine va_iald hx hb hK hP (1) 0 (mo_1) rfl (vp_in_nI (show 6 < 142 by decide) (by omega)) dX6_weekOf_153 ?_
            refine z_top (v2 := .int (z 6)) (congrArg Value.int (((congrArg (zfn (upd (upd (rustZ (upd (upd z (14 + 16 * j + 3) (idlP z j)) (14 + 16 * j + 4) 0) j (z 4) 5) (14 + 16 * j + 1) ((z (14 + 16 * j + 1)) + (-(decP (z (14 + 16 * j + 1)) (z 3))))) (14 + 16 * j + 9) ((z (14 + 16 * j + 9)) + (decP (z (14 + 16 * j + 1)) (z 3))))) (z_cl (k := 6) rfl)).trans (zfn_at (by omega))).trans ((upd_ne (by omega)).trans ((upd_ne (by omega)).trans ((rustZ_at _ (by omega)).trans ((upd_ne (by omega)).trans (upd_ne (by omega)))))))) ?_
            refine lv_iload_n hx hb dX6_weekOf_154 rfl (lv_at hl 0 rfl) ?_
            refine lv_iadd hx hb dX6_weekOf_155  ?_
            refine z_iast (ws2 := moW cI q (upd (upd (upd (rustZ (upd (upd z (14 + 16 * j + 3) (idlP z j)) (14 + 16 * j + 4) 0) j (z 4) 5) (14 + 16 * j + 1) ((z (14 + 16 * j + 1)) + (-(decP (z (14 + 16 * j + 1)) (z 3))))) (14 + 16 * j + 9) ((z (14 + 16 * j + 9)) + (decP (z (14 + 16 * j + 1)) (z 3)))) 6 ((z 6) + (decP (z (14 + 16 * j + 1)) (z 3)))) hi tx pa ke mr hs wr) hx hb hK hP hD hS (1) 0 (mo_1) rfl (vp_in_nI (show 6 < 142 by decide) (by omega)) dX6_weekOf_156 (mo_w1 (z_cl (k := 6) rfl) (by omega)) (fun H locs hP hD hS => ?_)
            refine lv_iload_n hx hb dX6_weekOf_157 rfl (lv_at hl 0 rfl) ?_
            exact z_iret hx hb hr hlocks hP hD hK hS (by rw [wkM, if_pos c2]) (by rw [ewR, if_pos c2]) dX6_weekOf_158
        | succ n54 ih54 =>
          intro i h_i H locs hP hD hS ls hl
          have li : i < 5 := by omega
          refine lv_iload_n hx hb dX6_weekOf_54 rfl (lv_at hl 2 rfl) ?_
          refine lv_iconst (v := 5) hx hb dX6_weekOf_55 (by decide) ?_
          refine lv_icmp_ge (tgt := 100) hx hb dX6_weekOf_56 (by decide) (fun c5 => absurd c5 (nI_ge (a := i) (b := 5) (by omega) (by omega))) (fun c5 => ?_)
          have c5 := z_lt c5
          refine lv_aload_n hx hb dX6_weekOf_59 rfl (lv_at hl 0 rfl) ?_
          refine lv_iload_n hx hb dX6_weekOf_60 rfl (lv_at hl 1 rfl) ?_
          refine lv_bipush (v := 11) hx hb dX6_weekOf_61 (by decide) ?_
          refine lv_iload_n hx hb dX6_weekOf_63 rfl (lv_at hl 2 rfl) ?_
          refine lv_iadd hx hb dX6_weekOf_64  ?_
          refine z_top (v2 := .int (nI (11 + i))) (congrArg Value.int (nI_add 11 i)) ?_
          refine z_callV1 (rest := []) S (c_X6_of j (11 + i) (25 + 16 * j + i) (show j < 8 by omega) (show 11 + i < 16 by omega) (by omega) (z (25 + 16 * j + i)) ((rustZ_at _ (by omega)).trans ((upd_ne (by omega)).trans (upd_ne (by omega))))) qm_X6_36 v_X6_of ⟨Nat.le_of_ble_eq_true rfl, Nat.le_of_ble_eq_true rfl⟩ rfl rfl hN hK hP hD hS hA (0) (mo_0) rfl rfl hl.1 rfl (Nat.le_of_ble_eq_true rfl) dX6_weekOf_65 ⟨Nat.le_of_ble_eq_true rfl, Nat.le_of_ble_eq_true rfl⟩ (fun H locs hP hD hS => ?_)
          refine lv_aload_n hx hb dX6_weekOf_68 rfl (lv_at hl 0 rfl) ?_
          refine va_get (v := .ref (q 1)) hx hb hts inTX6 hown hK hP (0) (mo_0) rfl 0 (by decide) (hts _ qf_X6_7) (fun _ h9 => h9) (rfl) dX6_weekOf_69 ?_
          refine lv_iconst (v := 4) hx hb dX6_weekOf_72 (by decide) ?_
          refine va_iald hx hb hK hP (1) 0 (mo_1) rfl (vp_in_nI (show 4 < 142 by decide) (by omega)) dX6_weekOf_73 ?_
          refine z_top (v2 := .int (z 4)) (congrArg Value.int (((congrArg (zfn (rustZ (upd (upd z (14 + 16 * j + 3) (idlP z j)) (14 + 16 * j + 4) 0) j (z 4) i)) (z_cl (k := 4) rfl)).trans (zfn_at (by omega))).trans ((rustZ_at _ (by omega)).trans ((upd_ne (by omega)).trans (upd_ne (by omega)))))) ?_
          refine lv_isub hx hb dX6_weekOf_74  ?_
          refine lv_istore_n (lv' := [(3, .int ((z (25 + 16 * j + i)) - (z 4))), (0, .ref (q 0)), (1, .int (nI j)), (2, .int (nI i))]) hx hb dX6_weekOf_75 rfl hl (by decide) rfl (fun ls hl => ?_)
          refine lv_aload_n hx hb dX6_weekOf_76 rfl (lv_at hl 1 rfl) ?_
          refine lv_iload_n hx hb dX6_weekOf_77 rfl (lv_at hl 2 rfl) ?_
          refine lv_bipush (v := 11) hx hb dX6_weekOf_78 (by decide) ?_
          refine lv_iload_n hx hb dX6_weekOf_80 rfl (lv_at hl 3 rfl) ?_
          refine lv_iadd hx hb dX6_weekOf_81  ?_
          refine z_top (v2 := .int (nI (11 + i))) (congrArg Value.int (nI_add 11 i)) ?_
          refine lv_iload_n hx hb dX6_weekOf_82 rfl (lv_at hl 0 rfl) ?_
          refine lv_if_ge (tgt := 90) hx hb dX6_weekOf_83 (by decide) (fun c6 => ?_) (fun c6 => ?_)
          · have c6 := z_nlt c6
            refine lv_iload_n hx hb dX6_weekOf_90 rfl (lv_at hl 0 rfl) ?_
            refine z_top (v2 := .int (maxP (z (25 + 16 * j + i) - z 4) 0)) (congrArg Value.int (maxP_d c6)) ?_
            refine z_callV0 (rest := []) S (c_X6_put j (11 + i) (25 + 16 * j + i) (show j < 8 by omega) (show 11 + i < 16 by omega) (by omega) (maxP (z (25 + 16 * j + i) - z 4) 0)) qm_X6_61 v_X6_put ⟨Nat.le_of_ble_eq_true rfl, Nat.le_of_ble_eq_true rfl⟩ rfl rfl hN hK hP hD hS hA (0) (mo_0) rfl rfl hl.1 rfl (Nat.le_of_ble_eq_true rfl) dX6_weekOf_91 ⟨Nat.le_of_ble_eq_true rfl, Nat.le_of_ble_eq_true rfl⟩ (fun H locs hP hD hS => ?_)
            refine lv_iinc (v := nI (i + 1)) (lv' := [(2, .int (nI (i + 1))), (3, .int ((z (25 + 16 * j + i)) - (z 4))), (0, .ref (q 0)), (1, .int (nI j))]) hx hb dX6_weekOf_94 hl (k := 3) rfl (nI_1 _) (by decide) rfl (fun ls hl => ?_)
            refine lv_goto (tgt := 54) hx hb dX6_weekOf_97 (by decide) ?_
            have hP := va_P_eq (w2 := moW cI q (rustZ (upd (upd z (14 + 16 * j + 3) (idlP z j)) (14 + 16 * j + 4) 0) j (z 4) (i + 1)) hi tx pa ke mr hs wr) (congrArg (fun z_ => moW cI q z_ hi tx pa ke mr hs wr) (rustZ_s)) hP
            have hD := va_D_eq (w2 := moW cI q (rustZ (upd (upd z (14 + 16 * j + 3) (idlP z j)) (14 + 16 * j + 4) 0) j (z 4) (i + 1)) hi tx pa ke mr hs wr) (congrArg (fun z_ => moW cI q z_ hi tx pa ke mr hs wr) (rustZ_s)) hD
            exact ih54 (i + 1) (by omega) _ _ hP hD hS ls (lv_sub hl [2, 3, 0] rfl)
          · have c6 := z_lt c6
            refine lv_iconst (v := 0) hx hb dX6_weekOf_86 (by decide) ?_
            refine z_top (v2 := .int (maxP (z (25 + 16 * j + i) - z 4) 0)) (congrArg Value.int (maxP_c c6)) ?_
            refine lv_goto (tgt := 91) hx hb dX6_weekOf_87 (by decide) ?_
            refine z_callV0 (rest := []) S (c_X6_put j (11 + i) (25 + 16 * j + i) (show j < 8 by omega) (show 11 + i < 16 by omega) (by omega) (maxP (z (25 + 16 * j + i) - z 4) 0)) qm_X6_61 v_X6_put ⟨Nat.le_of_ble_eq_true rfl, Nat.le_of_ble_eq_true rfl⟩ rfl rfl hN hK hP hD hS hA (0) (mo_0) rfl rfl hl.1 rfl (Nat.le_of_ble_eq_true rfl) dX6_weekOf_91 ⟨Nat.le_of_ble_eq_true rfl, Nat.le_of_ble_eq_true rfl⟩ (fun H locs hP hD hS => ?_)
            refine lv_iinc (v := nI (i + 1)) (lv' := [(2, .int (nI (i + 1))), (3, .int ((z (25 + 16 * j + i)) - (z 4))), (0, .ref (q 0)), (1, .int (nI j))]) hx hb dX6_weekOf_94 hl (k := 3) rfl (nI_1 _) (by decide) rfl (fun ls hl => ?_)
            refine lv_goto (tgt := 54) hx hb dX6_weekOf_97 (by decide) ?_
            have hP := va_P_eq (w2 := moW cI q (rustZ (upd (upd z (14 + 16 * j + 3) (idlP z j)) (14 + 16 * j + 4) 0) j (z 4) (i + 1)) hi tx pa ke mr hs wr) (congrArg (fun z_ => moW cI q z_ hi tx pa ke mr hs wr) (rustZ_s)) hP
            have hD := va_D_eq (w2 := moW cI q (rustZ (upd (upd z (14 + 16 * j + 3) (idlP z j)) (14 + 16 * j + 4) 0) j (z 4) (i + 1)) hi tx pa ke mr hs wr) (congrArg (fun z_ => moW cI q z_ hi tx pa ke mr hs wr) (rustZ_s)) hD
            exact ih54 (i + 1) (by omega) _ _ hP hD hS ls (lv_sub hl [2, 3, 0] rfl)
      have hl := (congrArg (fun qv_ => lv_has ls 4 [(2, qv_), (0, .ref (q 0)), (1, .int (nI j))]) (show Value.int 0 = .int (nI 0) from congrArg Value.int (rfl))).mp hl
      have hP := va_P_eq (w2 := moW cI q (rustZ (upd (upd z (14 + 16 * j + 3) (idlP z j)) (14 + 16 * j + 4) 0) j (z 4) 0) hi tx pa ke mr hs wr) (rfl) hP
      have hD := va_D_eq (w2 := moW cI q (rustZ (upd (upd z (14 + 16 * j + 3) (idlP z j)) (14 + 16 * j + 4) 0) j (z 4) 0) hi tx pa ke mr hs wr) (rfl) hD
      exact K54 5 0 (by omega) _ _ hP hD hS ls (lv_sub hl [1, 2, 0] rfl)
    · skip
      refine lv_iconst (v := 0) hx hb dX6_weekOf_50 (by decide) ?_
      exact z_iret hx hb hr hlocks hP hD hK hS (by rw [wkM, if_neg c2]) (by rw [ewR, if_neg c2]) dX6_weekOf_51
  · skip
    refine lv_iconst (v := 0) hx hb dX6_weekOf_13 (by decide) ?_
    refine z_top (v2 := .int (idlP z j)) (congrArg Value.int (idl_a c1)) ?_
    refine lv_goto (tgt := 25) hx hb dX6_weekOf_14 (by decide) ?_
    refine z_callV0 (rest := []) S (c_X6_put j 3 (14 + 16 * j + 3) (show j < 8 by omega) (show 3 < 16 by decide) (by omega) (idlP z j)) qm_X6_61 v_X6_put ⟨Nat.le_of_ble_eq_true rfl, Nat.le_of_ble_eq_true rfl⟩ rfl rfl hN hK hP hD hS hA (0) (mo_0) rfl rfl hl.1 rfl (Nat.le_of_ble_eq_true rfl) dX6_weekOf_25 ⟨Nat.le_of_ble_eq_true rfl, Nat.le_of_ble_eq_true rfl⟩ (fun H locs hP hD hS => ?_)
    refine lv_aload_n hx hb dX6_weekOf_28 rfl (lv_at hl 0 rfl) ?_
    refine lv_iload_n hx hb dX6_weekOf_29 rfl (lv_at hl 1 rfl) ?_
    refine lv_iconst (v := 4) hx hb dX6_weekOf_30 (by decide) ?_
    refine lv_iconst (v := 0) hx hb dX6_weekOf_31 (by decide) ?_
    refine z_callV0 (rest := []) S (c_X6_put j 4 (14 + 16 * j + 4) (show j < 8 by omega) (show 4 < 16 by decide) (by omega) 0) qm_X6_61 v_X6_put ⟨Nat.le_of_ble_eq_true rfl, Nat.le_of_ble_eq_true rfl⟩ rfl rfl hN hK hP hD hS hA (0) (mo_0) rfl rfl hl.1 rfl (Nat.le_of_ble_eq_true rfl) dX6_weekOf_32 ⟨Nat.le_of_ble_eq_true rfl, Nat.le_of_ble_eq_true rfl⟩ (fun H locs hP hD hS => ?_)
    refine lv_aload_n hx hb dX6_weekOf_35 rfl (lv_at hl 0 rfl) ?_
    refine lv_iload_n hx hb dX6_weekOf_36 rfl (lv_at hl 1 rfl) ?_
    refine lv_iconst (v := 3) hx hb dX6_weekOf_37 (by decide) ?_
    refine z_callV1 (rest := []) S (c_X6_of j 3 (14 + 16 * j + 3) (show j < 8 by omega) (show 3 < 16 by decide) (by omega) (idlP z j) ((upd_ne (by omega)).trans (upd_eq rfl))) qm_X6_36 v_X6_of ⟨Nat.le_of_ble_eq_true rfl, Nat.le_of_ble_eq_true rfl⟩ rfl rfl hN hK hP hD hS hA (0) (mo_0) rfl rfl hl.1 rfl (Nat.le_of_ble_eq_true rfl) dX6_weekOf_38 ⟨Nat.le_of_ble_eq_true rfl, Nat.le_of_ble_eq_true rfl⟩ (fun H locs hP hD hS => ?_)
    refine lv_aload_n hx hb dX6_weekOf_41 rfl (lv_at hl 0 rfl) ?_
    refine va_get (v := .ref (q 1)) hx hb hts inTX6 hown hK hP (0) (mo_0) rfl 0 (by decide) (hts _ qf_X6_7) (fun _ h9 => h9) (rfl) dX6_weekOf_42 ?_
    refine lv_iconst (v := 2) hx hb dX6_weekOf_45 (by decide) ?_
    refine va_iald hx hb hK hP (1) 0 (mo_1) rfl (vp_in_nI (show 2 < 142 by decide) (by omega)) dX6_weekOf_46 ?_
    refine z_top (v2 := .int (z 2)) (congrArg Value.int (((congrArg (zfn (upd (upd z (14 + 16 * j + 3) (idlP z j)) (14 + 16 * j + 4) 0)) (z_cl (k := 2) rfl)).trans (zfn_at (by omega))).trans ((upd_ne (by omega)).trans ((upd_ne (by omega)).trans (rfl))))) ?_
    refine lv_icmp_gt (tgt := 52) hx hb dX6_weekOf_47 (by decide) (fun c7 => ?_) (fun c7 => ?_)
    · skip
      refine lv_iconst (v := 0) hx hb dX6_weekOf_52 (by decide) ?_
      refine lv_istore_n (lv' := [(2, .int 0), (0, .ref (q 0)), (1, .int (nI j))]) hx hb dX6_weekOf_53 rfl hl (by decide) rfl (fun ls hl => ?_)
      have K54 : ∀ (n54 i : Nat), i + n54 = 5 → ∀ (H : Heap) (locs : List Loc), va_P D vwCl (moW cI q (rustZ (upd (upd z (14 + 16 * j + 3) (idlP z j)) (14 + 16 * j + 4) 0) j (z 4) i) hi tx pa ke mr hs wr) H → va_D A (moW cI q (rustZ (upd (upd z (14 + 16 * j + 3) (idlP z j)) (14 + 16 * j + 4) 0) j (z 4) i) hi tx pa ke mr hs wr) → va_S A s.heap H locs → ∀ ls : Array Slot, lv_has ls 4 [(0, .ref (q 0)), (1, .int (nI j)), (2, .int (nI i))] → W p l e ({ frames := 1, cells := 0, slots := 0, locals := 23 } : Room) s m ([.ref (q 0), .int (nI j)] : List Value).toArray below meth c H locs 0 0 (MQ below (zQ D (zT cI cC cM cB cJ) (moW cI q (wkM z j) hi tx pa ke mr hs wr) (some (.int (ewR z j))) A) ([.ref (q 0), .int (nI j)] : List Value).toArray s 0 0 A) (F0 m 54 ls []) := by
        intro n54
        induction n54 with
        | zero =>
          intro i h_i H locs hP hD hS ls hl
          have ei : 5 = i := by omega
          subst ei
          refine lv_iload_n hx hb dX6_weekOf_54 rfl (lv_at hl 2 rfl) ?_
          refine lv_iconst (v := 5) hx hb dX6_weekOf_55 (by decide) ?_
          refine lv_icmp_ge (tgt := 100) hx hb dX6_weekOf_56 (by decide) (fun c8 => ?_) (fun c8 => absurd (nI_le (a := 5) (b := 5) (by omega) (by omega)) c8)
          have c8 := z_nlt c8
          refine lv_aload_n hx hb dX6_weekOf_100 rfl (lv_at hl 0 rfl) ?_
          refine lv_iload_n hx hb dX6_weekOf_101 rfl (lv_at hl 1 rfl) ?_
          refine lv_iconst (v := 1) hx hb dX6_weekOf_102 (by decide) ?_
          refine z_callV1 (rest := []) S (c_X6_of j 1 (14 + 16 * j + 1) (show j < 8 by omega) (show 1 < 16 by decide) (by omega) (z (14 + 16 * j + 1)) ((rustZ_at _ (by omega)).trans ((upd_ne (by omega)).trans (upd_ne (by omega))))) qm_X6_36 v_X6_of ⟨Nat.le_of_ble_eq_true rfl, Nat.le_of_ble_eq_true rfl⟩ rfl rfl hN hK hP hD hS hA (0) (mo_0) rfl rfl hl.1 rfl (Nat.le_of_ble_eq_true rfl) dX6_weekOf_103 ⟨Nat.le_of_ble_eq_true rfl, Nat.le_of_ble_eq_true rfl⟩ (fun H locs hP hD hS => ?_)
          refine lv_if_le (tgt := 128) hx hb dX6_weekOf_106 (by decide) (fun c9 => ?_) (fun c9 => ?_)
          · have c9 := z_nlt c9
            refine lv_iconst (v := 0) hx hb dX6_weekOf_128 (by decide) ?_
            refine z_top (v2 := .int (decP (z (14 + 16 * j + 1)) (z 3))) (congrArg Value.int (decP_b c9)) ?_
            refine lv_istore_n (lv' := [(2, .int (decP (z (14 + 16 * j + 1)) (z 3))), (0, .ref (q 0)), (1, .int (nI j))]) hx hb dX6_weekOf_129 rfl hl (by decide) rfl (fun ls hl => ?_)
            refine lv_aload_n hx hb dX6_weekOf_130 rfl (lv_at hl 1 rfl) ?_
            refine lv_iload_n hx hb dX6_weekOf_131 rfl (lv_at hl 2 rfl) ?_
            refine lv_iconst (v := 1) hx hb dX6_weekOf_132 (by decide) ?_
            refine lv_iload_n hx hb dX6_weekOf_133 rfl (lv_at hl 0 rfl) ?_
            refine lv_ineg hx hb dX6_weekOf_134 ?_
            refine z_callV0 (rest := []) S (c_X6_add j 1 (14 + 16 * j + 1) (show j < 8 by omega) (show 1 < 16 by decide) (by omega) (-(decP (z (14 + 16 * j + 1)) (z 3))) (z (14 + 16 * j + 1)) ((rustZ_at _ (by omega)).trans ((upd_ne (by omega)).trans (upd_ne (by omega))))) qm_X6_51 v_X6_add ⟨Nat.le_of_ble_eq_true rfl, Nat.le_of_ble_eq_true rfl⟩ rfl rfl hN hK hP hD hS hA (0) (mo_0) rfl rfl hl.1 rfl (Nat.le_of_ble_eq_true rfl) dX6_weekOf_135 ⟨Nat.le_of_ble_eq_true rfl, Nat.le_of_ble_eq_true rfl⟩ (fun H locs hP hD hS => ?_)
            refine lv_aload_n hx hb dX6_weekOf_138 rfl (lv_at hl 1 rfl) ?_
            refine lv_iload_n hx hb dX6_weekOf_139 rfl (lv_at hl 2 rfl) ?_
            refine lv_bipush (v := 9) hx hb dX6_weekOf_140 (by decide) ?_
            refine lv_iload_n hx hb dX6_weekOf_142 rfl (lv_at hl 0 rfl) ?_
            refine z_callV0 (rest := []) S (c_X6_add j 9 (14 + 16 * j + 9) (show j < 8 by omega) (show 9 < 16 by decide) (by omega) (decP (z (14 + 16 * j + 1)) (z 3)) (z (14 + 16 * j + 9)) ((upd_ne (by omega)).trans ((rustZ_at _ (by omega)).trans ((upd_ne (by omega)).trans (upd_ne (by omega)))))) qm_X6_51 v_X6_add ⟨Nat.le_of_ble_eq_true rfl, Nat.le_of_ble_eq_true rfl⟩ rfl rfl hN hK hP hD hS hA (0) (mo_0) rfl rfl hl.1 rfl (Nat.le_of_ble_eq_true rfl) dX6_weekOf_143 ⟨Nat.le_of_ble_eq_true rfl, Nat.le_of_ble_eq_true rfl⟩ (fun H locs hP hD hS => ?_)
            refine lv_aload_n hx hb dX6_weekOf_146 rfl (lv_at hl 1 rfl) ?_
            refine va_get (v := .ref (q 1)) hx hb hts inTX6 hown hK hP (0) (mo_0) rfl 0 (by decide) (hts _ qf_X6_7) (fun _ h9 => h9) (rfl) dX6_weekOf_147 ?_
            refine lv_bipush (v := 6) hx hb dX6_weekOf_150 (by decide) ?_
            refine lv_dup2_11 hx hb dX6_weekOf_152 rfl rfl ?_
            refine va_iald hx hb hK hP (1) 0 (mo_1) rfl (vp_in_nI (show 6 < 142 by decide) (by omega)) dX6_weekOf_153 ?_
            refine z_top (v2 := .int (z 6)) (congrArg Value.int (((congrArg (zfn (upd (upd (rustZ (upd (upd z (14 + 16 * j + 3) (idlP z j)) (14 + 16 * j + 4) 0) j (z 4) 5) (14 + 16 * j + 1) ((z (14 + 16 * j + 1)) + (-(decP (z (14 + 16 * j + 1)) (z 3))))) (14 + 16 * j + 9) ((z (14 + 16 * j + 9)) + (decP (z (14 + 16 * j + 1)) (z 3))))) (z_cl (k := 6) rfl)).trans (zfn_at (by omega))).trans ((upd_ne (by omega)).trans ((upd_ne (by omega)).trans ((rustZ_at _ (by omega)).trans ((upd_ne (by omega)).trans (upd_ne (by omega)))))))) ?_
            refine lv_iload_n hx hb dX6_weekOf_154 rfl (lv_at hl 0 rfl) ?_
            refine lv_iadd hx hb dX6_weekOf_155  ?_
            refine z_iast (ws2 := moW cI q (upd (upd (upd (rustZ (upd (upd z (14 + 16 * j + 3) (idlP z j)) (14 + 16 * j + 4) 0) j (z 4) 5) (14 + 16 * j + 1) ((z (14 + 16 * j + 1)) + (-(decP (z (14 + 16 * j + 1)) (z 3))))) (14 + 16 * j + 9) ((z (14 + 16 * j + 9)) + (decP (z (14 + 16 * j + 1)) (z 3)))) 6 ((z 6) + (decP (z (14 + 16 * j + 1)) (z 3)))) hi tx pa ke mr hs wr) hx hb hK hP hD hS (1) 0 (mo_1) rfl (vp_in_nI (show 6 < 142 by decide) (by omega)) dX6_weekOf_156 (mo_w1 (z_cl (k := 6) rfl) (by omega)) (fun H locs hP hD hS => ?_)
            refine lv_iload_n hx hb dX6_weekOf_157 rfl (lv_at hl 0 rfl) ?_
            exact z_iret hx hb hr hlocks hP hD hK hS (by rw [wkM, if_pos c7]) (by rw [ewR, if_pos c7]) dX6_weekOf_158
          · have c9 := z_lt c9
            refine lv_aload_n hx hb dX6_weekOf_109 rfl (lv_at hl 0 rfl) ?_
            refine lv_iload_n hx hb dX6_weekOf_110 rfl (lv_at hl 1 rfl) ?_
            refine lv_iconst (v := 1) hx hb dX6_weekOf_111 (by decide) ?_
            refine z_callV1 (rest := []) S (c_X6_of j 1 (14 + 16 * j + 1) (show j < 8 by omega) (show 1 < 16 by decide) (by omega) (z (14 + 16 * j + 1)) ((rustZ_at _ (by omega)).trans ((upd_ne (by omega)).trans (upd_ne (by omega))))) qm_X6_36 v_X6_of ⟨Nat.le_of_ble_eq_true rfl, Nat.le_of_ble_eq_true rfl⟩ rfl rfl hN hK hP hD hS hA (0) (mo_0) rfl rfl hl.1 rfl (Nat.le_of_ble_eq_true rfl) dX6_weekOf_112 ⟨Nat.le_of_ble_eq_true rfl, Nat.le_of_ble_eq_true rfl⟩ (fun H locs hP hD hS => ?_)
            refine lv_aload_n hx hb dX6_weekOf_115 rfl (lv_at hl 0 rfl) ?_
            refine va_get (v := .ref (q 1)) hx hb hts inTX6 hown hK hP (0) (mo_0) rfl 0 (by decide) (hts _ qf_X6_7) (fun _ h9 => h9) (rfl) dX6_weekOf_116 ?_
            refine lv_iconst (v := 3) hx hb dX6_weekOf_119 (by decide) ?_
            refine va_iald hx hb hK hP (1) 0 (mo_1) rfl (vp_in_nI (show 3 < 142 by decide) (by omega)) dX6_weekOf_120 ?_
            refine z_top (v2 := .int (z 3)) (congrArg Value.int (((congrArg (zfn (rustZ (upd (upd z (14 + 16 * j + 3) (idlP z j)) (14 + 16 * j + 4) 0) j (z 4) 5)) (z_cl (k := 3) rfl)).trans (zfn_at (by omega))).trans ((rustZ_at _ (by omega)).trans ((upd_ne (by omega)).trans (upd_ne (by omega)))))) ?_
            refine lv_imul hx hb dX6_weekOf_121  ?_
            refine lv_bipush (v := 100) hx hb dX6_weekOf_122 (by decide) ?_
            refine lv_idiv hx hb dX6_weekOf_124 (by decide) ?_
            refine z_top (v2 := .int (decP (z (14 + 16 * j + 1)) (z 3))) (congrArg Value.int (decP_a c9)) ?_
            refine lv_goto (tgt := 129) hx hb dX6_weekOf_125 (by decide) ?_
            refine lv_istore_n (lv' := [(2, .int (decP (z (14 + 16 * j + 1)) (z 3))), (0, .ref (q 0)), (1, .int (nI j))]) hx hb dX6_weekOf_129 rfl hl (by decide) rfl (fun ls hl => ?_)
            refine lv_aload_n hx hb dX6_weekOf_130 rfl (lv_at hl 1 rfl) ?_
            refine lv_iload_n hx hb dX6_weekOf_131 rfl (lv_at hl 2 rfl) ?_
            refine lv_iconst (v := 1) hx hb dX6_weekOf_132 (by decide) ?_
            refine lv_iload_n hx hb dX6_weekOf_133 rfl (lv_at hl 0 rfl) ?_
            refine lv_ineg hx hb dX6_weekOf_134 ?_
            refine z_callV0 (rest := []) S (c_X6_add j 1 (14 + 16 * j + 1) (show j < 8 by omega) (show 1 < 16 by decide) (by omega) (-(decP (z (14 + 16 * j + 1)) (z 3))) (z (14 + 16 * j + 1)) ((rustZ_at _ (by omega)).trans ((upd_ne (by omega)).trans (upd_ne (by omega))))) qm_X6_51 v_X6_add ⟨Nat.le_of_ble_eq_true rfl, Nat.le_of_ble_eq_true rfl⟩ rfl rfl hN hK hP hD hS hA (0) (mo_0) rfl rfl hl.1 rfl (Nat.le_of_ble_eq_true rfl) dX6_weekOf_135 ⟨Nat.le_of_ble_eq_true rfl, Nat.le_of_ble_eq_true rfl⟩ (fun H locs hP hD hS => ?_)
            refine lv_aload_n hx hb dX6_weekOf_138 rfl (lv_at hl 1 rfl) ?_
            refine lv_iload_n hx hb dX6_weekOf_139 rfl (lv_at hl 2 rfl) ?_
            refine lv_bipush (v := 9) hx hb dX6_weekOf_140 (by decide) ?_
            refine lv_iload_n hx hb dX6_weekOf_142 rfl (lv_at hl 0 rfl) ?_
            refine z_callV0 (rest := []) S (c_X6_add j 9 (14 + 16 * j + 9) (show j < 8 by omega) (show 9 < 16 by decide) (by omega) (decP (z (14 + 16 * j + 1)) (z 3)) (z (14 + 16 * j + 9)) ((upd_ne (by omega)).trans ((rustZ_at _ (by omega)).trans ((upd_ne (by omega)).trans (upd_ne (by omega)))))) qm_X6_51 v_X6_add ⟨Nat.le_of_ble_eq_true rfl, Nat.le_of_ble_eq_true rfl⟩ rfl rfl hN hK hP hD hS hA (0) (mo_0) rfl rfl hl.1 rfl (Nat.le_of_ble_eq_true rfl) dX6_weekOf_143 ⟨Nat.le_of_ble_eq_true rfl, Nat.le_of_ble_eq_true rfl⟩ (fun H locs hP hD hS => ?_)
            refine lv_aload_n hx hb dX6_weekOf_146 rfl (lv_at hl 1 rfl) ?_
            refine va_get (v := .ref (q 1)) hx hb hts inTX6 hown hK hP (0) (mo_0) rfl 0 (by decide) (hts _ qf_X6_7) (fun _ h9 => h9) (rfl) dX6_weekOf_147 ?_
            refine lv_bipush (v := 6) hx hb dX6_weekOf_150 (by decide) ?_
            refine lv_dup2_11 hx hb dX6_weekOf_152 rfl rfl ?_
            refine va_iald hx hb hK hP (1) 0 (mo_1) rfl (vp_in_nI (show 6 < 142 by decide) (by omega)) dX6_weekOf_153 ?_
            refine z_top (v2 := .int (z 6)) (congrArg Value.int (((congrArg (zfn (upd (upd (rustZ (upd (upd z (14 + 16 * j + 3) (idlP z j)) (14 + 16 * j + 4) 0) j (z 4) 5) (14 + 16 * j + 1) ((z (14 + 16 * j + 1)) + (-(decP (z (14 + 16 * j + 1)) (z 3))))) (14 + 16 * j + 9) ((z (14 + 16 * j + 9)) + (decP (z (14 + 16 * j + 1)) (z 3))))) (z_cl (k := 6) rfl)).trans (zfn_at (by omega))).trans ((upd_ne (by omega)).trans ((upd_ne (by omega)).trans ((rustZ_at _ (by omega)).trans ((upd_ne (by omega)).trans (upd_ne (by omega)))))))) ?_
            refine lv_iload_n hx hb dX6_weekOf_154 rfl (lv_at hl 0 rfl) ?_
            refine lv_iadd hx hb dX6_weekOf_155  ?_
            refine z_iast (ws2 := moW cI q (upd (upd (upd (rustZ (upd (upd z (14 + 16 * j + 3) (idlP z j)) (14 + 16 * j + 4) 0) j (z 4) 5) (14 + 16 * j + 1) ((z (14 + 16 * j + 1)) + (-(decP (z (14 + 16 * j + 1)) (z 3))))) (14 + 16 * j + 9) ((z (14 + 16 * j + 9)) + (decP (z (14 + 16 * j + 1)) (z 3)))) 6 ((z 6) + (decP (z (14 + 16 * j + 1)) (z 3)))) hi tx pa ke mr hs wr) hx hb hK hP hD hS (1) 0 (mo_1) rfl (vp_in_nI (show 6 < 142 by decide) (by omega)) dX6_weekOf_156 (mo_w1 (z_cl (k := 6) rfl) (by omega)) (fun H locs hP hD hS => ?_)
            refine lv_iload_n hx hb dX6_weekOf_157 rfl (lv_at hl 0 rfl) ?_
            exact z_iret hx hb hr hlocks hP hD hK hS (by rw [wkM, if_pos c7]) (by rw [ewR, if_pos c7]) dX6_weekOf_158
        | succ n54 ih54 =>
          intro i h_i H locs hP hD hS ls hl
          have li : i < 5 := by omega
          refine lv_iload_n hx hb dX6_weekOf_54 rfl (lv_at hl 2 rfl) ?_
          refine lv_iconst (v := 5) hx hb dX6_weekOf_55 (by decide) ?_
          refine lv_icmp_ge (tgt := 100) hx hb dX6_weekOf_56 (by decide) (fun c10 => absurd c10 (nI_ge (a := i) (b := 5) (by omega) (by omega))) (fun c10 => ?_)
          have c10 := z_lt c10
          refine lv_aload_n hx hb dX6_weekOf_59 rfl (lv_at hl 0 rfl) ?_
          refine lv_iload_n hx hb dX6_weekOf_60 rfl (lv_at hl 1 rfl) ?_
          refine lv_bipush (v := 11) hx hb dX6_weekOf_61 (by decide) ?_
          refine lv_iload_n hx hb dX6_weekOf_63 rfl (lv_at hl 2 rfl) ?_
          refine lv_iadd hx hb dX6_weekOf_64  ?_
          refine z_top (v2 := .int (nI (11 + i))) (congrArg Value.int (nI_add 11 i)) ?_
          refine z_callV1 (rest := []) S (c_X6_of j (11 + i) (25 + 16 * j + i) (show j < 8 by omega) (show 11 + i < 16 by omega) (by omega) (z (25 + 16 * j + i)) ((rustZ_at _ (by omega)).trans ((upd_ne (by omega)).trans (upd_ne (by omega))))) qm_X6_36 v_X6_of ⟨Nat.le_of_ble_eq_true rfl, Nat.le_of_ble_eq_true rfl⟩ rfl rfl hN hK hP hD hS hA (0) (mo_0) rfl rfl hl.1 rfl (Nat.le_of_ble_eq_true rfl) dX6_weekOf_65 ⟨Nat.le_of_ble_eq_true rfl, Nat.le_of_ble_eq_true rfl⟩ (fun H locs hP hD hS => ?_)
          refine lv_aload_n hx hb dX6_weekOf_68 rfl (lv_at hl 0 rfl) ?_
          refine va_get (v := .ref (q 1)) hx hb hts inTX6 hown hK hP (0) (mo_0) rfl 0 (by decide) (hts _ qf_X6_7) (fun _ h9 => h9) (rfl) dX6_weekOf_69 ?_
          refine lv_iconst (v := 4) hx hb dX6_weekOf_72 (by decide) ?_
          refine va_iald hx hb hK hP (1) 0 (mo_1) rfl (vp_in_nI (show 4 < 142 by decide) (by omega)) dX6_weekOf_73 ?_
          refine z_top (v2 := .int (z 4)) (congrArg Value.int (((congrArg (zfn (rustZ (upd (upd z (14 + 16 * j + 3) (idlP z j)) (14 + 16 * j + 4) 0) j (z 4) i)) (z_cl (k := 4) rfl)).trans (zfn_at (by omega))).trans ((rustZ_at _ (by omega)).trans ((upd_ne (by omega)).trans (upd_ne (by omega)))))) ?_
          refine lv_isub hx hb dX6_weekOf_74  ?_
          refine lv_istore_n (lv' := [(3, .int ((z (25 + 16 * j + i)) - (z 4))), (0, .ref (q 0)), (1, .int (nI j)), (2, .int (nI i))]) hx hb dX6_weekOf_75 rfl hl (by decide) rfl (fun ls hl => ?_)
          refine lv_aload_n hx hb dX6_weekOf_76 rfl (lv_at hl 1 rfl) ?_
          refine lv_iload_n hx hb dX6_weekOf_77 rfl (lv_at hl 2 rfl) ?_
          refine lv_bipush (v := 11) hx hb dX6_weekOf_78 (by decide) ?_
          refine lv_iload_n hx hb dX6_weekOf_80 rfl (lv_at hl 3 rfl) ?_
          refine lv_iadd hx hb dX6_weekOf_81  ?_
          refine z_top (v2 := .int (nI (11 + i))) (congrArg Value.int (nI_add 11 i)) ?_
          refine lv_iload_n hx hb dX6_weekOf_82 rfl (lv_at hl 0 rfl) ?_
          refine lv_if_ge (tgt := 90) hx hb dX6_weekOf_83 (by decide) (fun c11 => ?_) (fun c11 => ?_)
          · have c11 := z_nlt c11
            refine lv_iload_n hx hb dX6_weekOf_90 rfl (lv_at hl 0 rfl) ?_
            refine z_top (v2 := .int (maxP (z (25 + 16 * j + i) - z 4) 0)) (congrArg Value.int (maxP_d c11)) ?_
            refine z_callV0 (rest := []) S (c_X6_put j (11 + i) (25 + 16 * j + i) (show j < 8 by omega) (show 11 + i < 16 by omega) (by omega) (maxP (z (25 + 16 * j + i) - z 4) 0)) qm_X6_61 v_X6_put ⟨Nat.le_of_ble_eq_true rfl, Nat.le_of_ble_eq_true rfl⟩ rfl rfl hN hK hP hD hS hA (0) (mo_0) rfl rfl hl.1 rfl (Nat.le_of_ble_eq_true rfl) dX6_weekOf_91 ⟨Nat.le_of_ble_eq_true rfl, Nat.le_of_ble_eq_true rfl⟩ (fun H locs hP hD hS => ?_)
            refine lv_iinc (v := nI (i + 1)) (lv' := [(2, .int (nI (i + 1))), (3, .int ((z (25 + 16 * j + i)) - (z 4))), (0, .ref (q 0)), (1, .int (nI j))]) hx hb dX6_weekOf_94 hl (k := 3) rfl (nI_1 _) (by decide) rfl (fun ls hl => ?_)
            refine lv_goto (tgt := 54) hx hb dX6_weekOf_97 (by decide) ?_
            have hP := va_P_eq (w2 := moW cI q (rustZ (upd (upd z (14 + 16 * j + 3) (idlP z j)) (14 + 16 * j + 4) 0) j (z 4) (i + 1)) hi tx pa ke mr hs wr) (congrArg (fun z_ => moW cI q z_ hi tx pa ke mr hs wr) (rustZ_s)) hP
            have hD := va_D_eq (w2 := moW cI q (rustZ (upd (upd z (14 + 16 * j + 3) (idlP z j)) (14 + 16 * j + 4) 0) j (z 4) (i + 1)) hi tx pa ke mr hs wr) (congrArg (fun z_ => moW cI q z_ hi tx pa ke mr hs wr) (rustZ_s)) hD
            exact ih54 (i + 1) (by omega) _ _ hP hD hS ls (lv_sub hl [2, 3, 0] rfl)
          · have c11 := z_lt c11
            refine lv_iconst (v := 0) hx hb dX6_weekOf_86 (by decide) ?_
            refine z_top (v2 := .int (maxP (z (25 + 16 * j + i) - z 4) 0)) (congrArg Value.int (maxP_c c11)) ?_
            refine lv_goto (tgt := 91) hx hb dX6_weekOf_87 (by decide) ?_
            refine z_callV0 (rest := []) S (c_X6_put j (11 + i) (25 + 16 * j + i) (show j < 8 by omega) (show 11 + i < 16 by omega) (by omega) (maxP (z (25 + 16 * j + i) - z 4) 0)) qm_X6_61 v_X6_put ⟨Nat.le_of_ble_eq_true rfl, Nat.le_of_ble_eq_true rfl⟩ rfl rfl hN hK hP hD hS hA (0) (mo_0) rfl rfl hl.1 rfl (Nat.le_of_ble_eq_true rfl) dX6_weekOf_91 ⟨Nat.le_of_ble_eq_true rfl, Nat.le_of_ble_eq_true rfl⟩ (fun H locs hP hD hS => ?_)
            refine lv_iinc (v := nI (i + 1)) (lv' := [(2, .int (nI (i + 1))), (3, .int ((z (25 + 16 * j + i)) - (z 4))), (0, .ref (q 0)), (1, .int (nI j))]) hx hb dX6_weekOf_94 hl (k := 3) rfl (nI_1 _) (by decide) rfl (fun ls hl => ?_)
            refine lv_goto (tgt := 54) hx hb dX6_weekOf_97 (by decide) ?_
            have hP := va_P_eq (w2 := moW cI q (rustZ (upd (upd z (14 + 16 * j + 3) (idlP z j)) (14 + 16 * j + 4) 0) j (z 4) (i + 1)) hi tx pa ke mr hs wr) (congrArg (fun z_ => moW cI q z_ hi tx pa ke mr hs wr) (rustZ_s)) hP
            have hD := va_D_eq (w2 := moW cI q (rustZ (upd (upd z (14 + 16 * j + 3) (idlP z j)) (14 + 16 * j + 4) 0) j (z 4) (i + 1)) hi tx pa ke mr hs wr) (congrArg (fun z_ => moW cI q z_ hi tx pa ke mr hs wr) (rustZ_s)) hD
            exact ih54 (i + 1) (by omega) _ _ hP hD hS ls (lv_sub hl [2, 3, 0] rfl)
      have hl := (congrArg (fun qv_ => lv_has ls 4 [(2, qv_), (0, .ref (q 0)), (1, .int (nI j))]) (show Value.int 0 = .int (nI 0) from congrArg Value.int (rfl))).mp hl
      have hP := va_P_eq (w2 := moW cI q (rustZ (upd (upd z (14 + 16 * j + 3) (idlP z j)) (14 + 16 * j + 4) 0) j (z 4) 0) hi tx pa ke mr hs wr) (rfl) hP
      have hD := va_D_eq (w2 := moW cI q (rustZ (upd (upd z (14 + 16 * j + 3) (idlP z j)) (14 + 16 * j + 4) 0) j (z 4) 0) hi tx pa ke mr hs wr) (rfl) hD
      exact K54 5 0 (by omega) _ _ hP hD hS ls (lv_sub hl [1, 2, 0] rfl)
    · skip
      refine lv_iconst (v := 0) hx hb dX6_weekOf_50 (by decide) ?_
      exact z_iret hx hb hr hlocks hP hD hK hS (by rw [wkM, if_neg c7]) (by rw [ewR, if_neg c7]) dX6_weekOf_51
end XB

