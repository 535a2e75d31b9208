/-! What the face answers. -/
abbrev mP (x : Int32) (n : Nat) : Prop := ¬ (x < 0) ∧ x < nI n
abbrev sP (x : Int32) : Prop := ¬ (x < 0) ∧ ¬ (4 < x)
abbrev cl (x : Int32) : Nat := x.toNatClampNeg
theorem mem_nat {n : Nat} (hn : n ≤ 8) {x : Int32} (h : ¬ (x < 0) ∧ x < nI n) : ∃ j : Nat, j < n ∧ x = nI j := by
  obtain ⟨j, hj, rfl⟩ := nI_of h.1
  exact ⟨j, (nI_ltI hj (by omega)).mp h.2, rfl⟩
theorem skl_nat {x : Int32} (h : ¬ (x < 0) ∧ ¬ (4 < x)) : ∃ j : Nat, j < 5 ∧ x = nI j := by
  obtain ⟨j, hj, rfl⟩ := nI_of h.1
  refine ⟨j, ?_, rfl⟩
  rcases Nat.lt_or_ge j 5 with q | q
  · exact q
  · exact absurd ((nI_ltI (a := 4) (b := j) (by omega) hj).mpr (by omega)) h.2
theorem w50_nat {x : Int32} (h : ¬ (x < 1) ∧ ¬ (50 < x)) : ∃ j : Nat, j < 51 ∧ x = nI j := by
  have h0 : ¬ x < 0 := fun q => h.1 (Int32.lt_trans q (by decide))
  obtain ⟨j, hj, rfl⟩ := nI_of h0
  refine ⟨j, ?_, rfl⟩
  rcases Nat.lt_or_ge j 51 with q | q
  · exact q
  · exact absurd ((nI_ltI (a := 50) (b := j) (by omega) hj).mpr (by omega)) h.2
theorem w100_nat {x : Int32} (h : ¬ (x < 0) ∧ ¬ (100 < x)) : ∃ j : Nat, j < 101 ∧ x = nI j := by
  obtain ⟨j, hj, rfl⟩ := nI_of h.1
  refine ⟨j, ?_, rfl⟩
  rcases Nat.lt_or_ge j 101 with q | q
  · exact q
  · exact absurd ((nI_ltI (a := 100) (b := j) (by omega) hj).mpr (by omega)) h.2
theorem c126_nat {x : Int32} (h : ¬ (x < 33) ∧ ¬ (126 < x)) : ∃ j : Nat, j < 127 ∧ x = nI j := by
  have h0 : ¬ x < 0 := fun q => h.1 (Int32.lt_trans q (by decide))
  obtain ⟨j, hj, rfl⟩ := nI_of h0
  refine ⟨j, ?_, rfl⟩
  rcases Nat.lt_or_ge j 127 with q | q
  · exact q
  · exact absurd ((nI_ltI (a := 126) (b := j) (by omega) hj).mpr (by omega)) h.2
theorem z_k0 {K : Int32} (k : Int32) (h : K = k) (hk : ¬ k = 0) : ¬ K = 0 := fun q => hk (h.symm.trans q)
theorem z_kE {K : Int32} {E1 E2 E3 E : String} (k : Int32) (h : K = k) (hk : xo E1 E2 E3 k = some E) : xo E1 E2 E3 K = some E := by rw [h]; exact hk
def kJoin (n : Nat) : Int32 := if nI n < 8 then 0 else 1
def kLeave (z : Nat → Int32) (n : Nat) (mb : Int32) : Int32 := if mP mb n then (if z (14 + 16 * cl mb) = 0 then 2 else if z (14 + 16 * cl mb + 1) < 0 then 2 else 0) else 1
def kGive (z : Nat → Int32) (n : Nat) (ga ta sk mn : Int32) : Int32 := if mP ga n then (if mP ta n then (if sP sk then (if ga = ta then 2 else if inP mn 1 600 then (if alwP z n (cl ga) (cl ta) (cl sk) mn then 0 else 3) else 2) else 1) else 1) else 1
def kDonate (z : Nat → Int32) (n : Nat) (mb mn : Int32) : Int32 := if mP mb n then (if inP mn 1 999 then (if z (14 + 16 * cl mb) = 0 then 3 else if z (14 + 16 * cl mb + 1) < mn then 3 else 0) else 2) else 1
def kPass (z : Nat → Int32) (wk : Int32) : Int32 := if inP wk 1 50 then (if 2000 < z 8 + wk then 2 else 0) else 1
def wkI (z : Nat → Int32) (n : Nat) : Nat → Nat → Int32
  | 0 => z
  | i + 1 => wkZ (wkI z n i) n
def wkS (z : Nat → Int32) (n : Nat) : Nat → Int32
  | 0 => 0
  | i + 1 => wkS z n i + wkR (wkI z n i) n
theorem wkZ_at {z : Nat → Int32} {n q : Nat} (h : q < 14) (h6 : q ≠ 6) (h8 : q ≠ 8) : wkZ z n q = z q := (ewkZ_at _ h h6).trans (upd_ne h8)
theorem wkI_at {z : Nat → Int32} {n : Nat} (i : Nat) {q : Nat} (h : q < 14) (h6 : q ≠ 6) (h8 : q ≠ 8) : wkI z n i q = z q := by
  induction i with
  | zero => rfl
  | succ i ih => exact (wkZ_at h h6 h8).trans ih
def kSet (st v : Int32) : Int32 := if sP st then (if inP v 0 (gsA (cl st)) then 0 else 2) else 1
def kMove (z : Nat → Int32) (n : Nat) (mb mn : Int32) : Int32 := if mP mb n then (if mn < 1 then 2 else if alwM z (cl mb) mn then 0 else 3) else 1
def kVote (z : Nat → Int32) (n : Nat) (mb : Int32) : Int32 := if mP mb n then (if cvP z (cl mb) then 0 else 2) else 1
def kTake (z : Nat → Int32) : Int32 := if z 10 = -1 then 1 else 0
def kAppend (nb : Nat) (cd : Int32) : Int32 := if inP cd 33 126 then (if nI nb < 60 then 0 else 2) else 1
def kRun (sg r : Nat → Int32) (nb : Nat) : Int32 := if nI (feN sg (rstR r) 0 nb) = nI nb ∧ whP (feR sg (rstR r) 0 nb) then 0 else 1
def kUndo (kp : Nat) : Int32 := if nI kp < 1 then 1 else 0
def kMember (n : Nat) (mb x : Int32) : Int32 := if mP mb n then (if inP x 0 11 then 0 else 2) else 1
def kSkill (n : Nat) (mb sk x : Int32) : Int32 := if mP mb n then (if sP sk then (if inP x 0 1 then 0 else 2) else 1) else 1
def kCount (x : Int32) : Int32 := if inP x 0 13 then 0 else 1
def kSetting (x : Int32) : Int32 := if sP x then 0 else 1
def kWorth (n : Nat) (mb sk mn : Int32) : Int32 := if mP mb n then (if sP sk then (if inP mn 1 600 then 0 else 2) else 1) else 1
def kLongest (n : Nat) (ga ta sk : Int32) : Int32 := if mP ga n then (if mP ta n then (if sP sk then 0 else 1) else 1) else 1
def kDecay (n : Nat) (mb wk : Int32) : Int32 := if mP mb n then (if inP wk 0 100 then 0 else 2) else 1
def kRipest (sk : Int32) : Int32 := if sP sk then 0 else 1
def numP (z : Nat → Int32) (n kp : Nat) (x : Int32) : Int32 := if x = 0 then nI n else if x = 1 then cntT z n else if x = 2 then z 6 else if x = 3 then z 7 else if x = 4 then z 8 else if x = 5 then z 9 else if x = 6 then sumC z n else if x = 7 then sumD z n else if x = 8 then sumF z 2 n else if x = 9 then z 10 else if x = 10 then z 11 else if x = 11 then cntB z 1 n else if x = 12 then cntB z 2 n else nI kp
theorem z_cases12 (x : Int32) : x = 0 ∨ x = 1 ∨ x = 2 ∨ x = 3 ∨ x = 4 ∨ x = 5 ∨ x = 6 ∨ x = 7 ∨ x = 8 ∨ x = 9 ∨ x = 10 ∨ x = 11 ∨ x = 12 ∨ (x.toInt < 0 ∨ 12 < x.toInt) := by
  by_cases h : x.toInt < 0 ∨ 12 < x.toInt
  · simp [h]
  · have h1 : ∃ k : Nat, k ≤ 12 ∧ x = nI k := by
      refine ⟨x.toInt.toNat, by omega, ?_⟩
      apply Int32.toInt_inj.mp
      rw [nI_toInt (by omega)]; omega
    obtain ⟨k, hk, rfl⟩ := h1
    have : k = 0 ∨ k = 1 ∨ k = 2 ∨ k = 3 ∨ k = 4 ∨ k = 5 ∨ k = 6 ∨ k = 7 ∨ k = 8 ∨ k = 9 ∨ k = 10 ∨ k = 11 ∨ k = 12 := by omega
    rcases this with rfl | rfl | rfl | rfl | rfl | rfl | rfl | rfl | rfl | rfl | rfl | rfl | rfl <;> decide
theorem z_out12 {x : Int32} (h : x.toInt < 0 ∨ 12 < x.toInt) : ¬ x = 0 ∧ ¬ x = 1 ∧ ¬ x = 2 ∧ ¬ x = 3 ∧ ¬ x = 4 ∧ ¬ x = 5 ∧ ¬ x = 6 ∧ ¬ x = 7 ∧ ¬ x = 8 ∧ ¬ x = 9 ∧ ¬ x = 10 ∧ ¬ x = 11 ∧ ¬ x = 12 := by
  refine ⟨?_, ?_, ?_, ?_, ?_, ?_, ?_, ?_, ?_, ?_, ?_, ?_, ?_⟩ <;> (intro q; rw [q] at h; revert h; decide)
theorem chr_nI {q : Nat} (h : q < 65536) : ((nI q).toUInt32 % 65536).toInt32 = nI q := by
  rw [pk_char, pk_tn (by omega), Nat.mod_eq_of_lt h]
theorem chr_nar {q : Nat} (h : q < 65536) : vp_nar .char (nI q) = nI q := by
  unfold vp_nar
  rw [(pk_charN h).1]
theorem whole_rows {sg r : Nat → Int32} {N : Nat} (hN : N ≤ 60) (h : nI (feN sg (rstR r) 0 N) = nI N ∧ whP (feR sg (rstR r) 0 N)) : ∀ i : Nat, i < N + 1 → mdC sg N i → rdOK (fq sg (feR sg (rstR r) 0 N) N i) := sorry

section XB
variable {l : Launch} {D : va_G} {cI cC cM cB cJ : ClassId} {ad ad2 : Nat → Nat} {z z2 : Nat → Int32} {wr : va_W} {t h : Nat → Nat} {ah : Nat → Nat → Nat} {zh : Nat → Nat → Int32} {x : Nat} {sg : Nat → Int32} {r : Nat → Int32} {sz : Int32}
set_option maxHeartbeats 4000000 in
set_option maxRecDepth 100000 in
theorem c_X5_append (hfl : l.stackTraces = false) {nx kp nb : Nat} (hnb : nb ≤ 60) (cd : Int32) : zX l D (zT cI cC cM cB cJ) yX5_append cX5_append 2 (some .int) ({ frames := 6, cells := 1, slots := 6, locals := 90 } : Room) [.ref x, .int cd] (bkW cI cM ad z (txW cC t sg (nI nb) r (xoW x ad h t (hsW cB h ah (nI nx) (nI kp) (hbW cI cM ah zh wr))))) (bkW cI cM ad z (txW cC t (upd sg nb cd) (nI (nb + 1)) r (xoW x ad h t (hsW cB h ah (nI nx) (nI kp) (hbW cI cM ah zh wr))))) (bkW cI cM ad z (txW cC t sg (nI nb) r (xoW x ad h t (hsW cB h ah (nI nx) (nI kp) (hbW cI cM ah zh wr))))) (some (.int (nI (nb + 1)))) "java/lang/IllegalArgumentException" "java/lang/IllegalStateException" "" (kAppend nb cd) 1 6 := by
  refine z_enterX (by decide) (Nat.le_of_ble_eq_true rfl) ?_
  intro p e s m below meth c A S hr hlocks hX hJ hN hA hK hP hD hS ls hl
  obtain ⟨hx, hb, hml, hown, hts⟩ := id S
  have hl : lv_has ls 2 [(0, .ref x), (1, .int cd)] := hl
  have hP : va_P D vwCl (bkW cI cM ad z (txW cC t sg (nI nb) r (xoW x ad h t (hsW cB h ah (nI nx) (nI kp) (hbW cI cM ah zh wr))))) s.heap := hP
  have hD : va_D A (bkW cI cM ad z (txW cC t sg (nI nb) r (xoW x ad h t (hsW cB h ah (nI nx) (nI kp) (hbW cI cM ah zh wr))))) := hD
  refine lv_iload_n hx hb dX5_append_0 rfl (lv_at hl 1 rfl) ?_
  refine lv_bipush (v := 33) hx hb dX5_append_1 (by decide) ?_
  refine lv_bipush (v := 126) hx hb dX5_append_3 (by decide) ?_
  refine z_callS1 (rest := []) S (c_X5_isWithin cd 33 126) qm_X5_100 t_X5_isWithin ⟨Nat.le_of_ble_eq_true rfl, Nat.le_of_ble_eq_true rfl⟩ rfl rfl hN hK hP hD hS hA rfl hl.1 rfl (Nat.le_of_ble_eq_true rfl) dX5_append_5 ⟨Nat.le_of_ble_eq_true rfl, Nat.le_of_ble_eq_true rfl⟩ (fun H locs hP hD hS => ?_)
  refine lv_if_ne (tgt := 21) hx hb dX5_append_8 (by decide) (fun c1 => ?_) (fun c1 => ?_)
  · have c1 := bI_1 c1
    obtain ⟨q_, hq_, rfl⟩ := c126_nat c1
    refine lv_aload_n hx hb dX5_append_21 rfl (lv_at hl 0 rfl) ?_
    refine va_get (v := .ref (t 0)) hx hb hts inTX5 hown hK hP (19 + (3 + (0))) ((bk_r).trans ((tx_r).trans (xo_0))) rfl 2 (by decide) (hts _ qf_X5_26) (fun _ h9 => h9) (rfl) dX5_append_22 ?_
    refine va_get (v := .int (nI nb)) hx hb hts inTX2 hown hK hP (19 + (0)) ((bk_r).trans (tx_0)) rfl 2 (by decide) (hts _ qf_X5_175) (fun _ h9 => h9) (rfl) dX5_append_25 ?_
    refine lv_bipush (v := 60) hx hb dX5_append_28 (by decide) ?_
    refine lv_icmp_lt (tgt := 43) hx hb dX5_append_30 (by decide) (fun c2 => ?_) (fun c2 => ?_)
    · skip
      refine lv_aload_n hx hb dX5_append_43 rfl (lv_at hl 0 rfl) ?_
      refine va_get (v := .ref (t 0)) hx hb hts inTX5 hown hK hP (19 + (3 + (0))) ((bk_r).trans ((tx_r).trans (xo_0))) rfl 2 (by decide) (hts _ qf_X5_26) (fun _ h9 => h9) (rfl) dX5_append_44 ?_
      refine lv_iload_n hx hb dX5_append_47 rfl (lv_at hl 1 rfl) ?_
      have hnb6 : nb < 60 := (nI_ltI (a := nb) (b := 60) (by omega) (by omega)).mp c2
      refine lv_i2c hx hb dX5_append_48 rfl ?_
      refine z_top (v2 := .int (nI q_)) (congrArg Value.int (chr_nI (by omega))) ?_
      refine z_callV0 (rest := []) S (c_X2_addSign (n := nb) (by omega) (chr_nar (by omega))) qm_X5_180 v_X2_addSign ⟨Nat.le_of_ble_eq_true rfl, Nat.le_of_ble_eq_true rfl⟩ rfl rfl hN hK hP hD hS hA (19 + (0)) ((bk_r).trans (tx_0)) rfl rfl hl.1 rfl (Nat.le_of_ble_eq_true rfl) dX5_append_49 ⟨Nat.le_of_ble_eq_true rfl, Nat.le_of_ble_eq_true rfl⟩ (fun H locs hP hD hS => ?_)
      refine lv_aload_n hx hb dX5_append_52 rfl (lv_at hl 0 rfl) ?_
      refine va_get (v := .ref (t 0)) hx hb hts inTX5 hown hK hP (19 + (3 + (0))) ((bk_r).trans ((tx_r).trans (xo_0))) rfl 2 (by decide) (hts _ qf_X5_26) (fun _ h9 => h9) (rfl) dX5_append_53 ?_
      refine va_get (v := .int (nI (nb + 1))) hx hb hts inTX2 hown hK hP (19 + (0)) ((bk_r).trans (tx_0)) rfl 2 (by decide) (hts _ qf_X5_175) (fun _ h9 => h9) (rfl) dX5_append_56 ?_
      refine W.widen (k := 1) (n := 6) (by decide) (by decide) ?_
      exact z_xiret hx hb hr hlocks hP hD hK hS (by first | (simp only [kAppend, mP, sP, inP, cl, alwP, alwM, cvP, whP, c1, nI_clamp (show q_ < 2 ^ 31 by omega), c2, not_true_eq_false, not_false_eq_true, and_self, and_true, true_and, and_false, false_and, or_true, true_or, or_false, false_or, if_true, if_false, ite_true, ite_false]; done) | (simp [kAppend, mP, sP, inP, cl, alwP, alwM, cvP, whP, c1, nI_clamp (show q_ < 2 ^ 31 by omega), c2]; done) | (simp_all [kAppend, mP, sP, inP, cl, alwP, alwM, cvP, whP]; done)) (by first | rfl | (simp only [minP, maxP, c1, nI_clamp (show q_ < 2 ^ 31 by omega), c2, not_true_eq_false, not_false_eq_true, and_self, and_true, true_and, and_false, false_and, or_true, true_or, or_false, false_or, if_true, if_false, ite_true, ite_false]; done) | (simp [minP, maxP, c1, nI_clamp (show q_ < 2 ^ 31 by omega), c2]; done) | (simp_all [minP, maxP]; done)) (by first | rfl | (simp only [minP, maxP, c1, nI_clamp (show q_ < 2 ^ 31 by omega), c2, not_true_eq_false, not_false_eq_true, and_self, and_true, true_and, and_false, false_and, or_true, true_or, or_false, false_or, if_true, if_false, ite_true, ite_false]; done) | (simp [minP, maxP, c1, nI_clamp (show q_ < 2 ^ 31 by omega), c2]; done) | (simp_all [minP, maxP]; done)) dX5_append_59
    · skip
      refine z_throw (rest := []) (cls := "java/lang/IllegalStateException") (text := "the buffer has 60 characters") hfl S hlocks hX hJ hK hP hD hS (rfl) hl.1 (by decide) qk_X5_34 qn_IllegalStateException at_ISE_g (fun w h => zBadX_in.2.1 w (at_ISE_b w h)) at_ISE_t (by decide) (z_k0 (k := 2) (by first | (simp only [kAppend, mP, sP, inP, cl, alwP, alwM, cvP, whP, c1, nI_clamp (show q_ < 2 ^ 31 by omega), c2, not_true_eq_false, not_false_eq_true, and_self, and_true, true_and, and_false, false_and, or_true, true_or, or_false, false_or, if_true, if_false, ite_true, ite_false]; done) | (simp [kAppend, mP, sP, inP, cl, alwP, alwM, cvP, whP, c1, nI_clamp (show q_ < 2 ^ 31 by omega), c2]; done) | (simp_all [kAppend, mP, sP, inP, cl, alwP, alwM, cvP, whP]; done)) (by decide)) (z_kE (k := 2) (by first | (simp only [kAppend, mP, sP, inP, cl, alwP, alwM, cvP, whP, c1, nI_clamp (show q_ < 2 ^ 31 by omega), c2, not_true_eq_false, not_false_eq_true, and_self, and_true, true_and, and_false, false_and, or_true, true_or, or_false, false_or, if_true, if_false, ite_true, ite_false]; done) | (simp [kAppend, mP, sP, inP, cl, alwP, alwM, cvP, whP, c1, nI_clamp (show q_ < 2 ^ 31 by omega), c2]; done) | (simp_all [kAppend, mP, sP, inP, cl, alwP, alwM, cvP, whP]; done)) (by decide)) (by decide) (by decide) dX5_append_33 dX5_append_36 dX5_append_37 dX5_append_39 dX5_append_42 (by decide) (by decide)
  · have c1 := bI_0 c1
    refine z_throw (rest := []) (cls := "java/lang/IllegalArgumentException") (text := "code is not 33 to 126") hfl S hlocks hX hJ hK hP hD hS (rfl) hl.1 (by decide) qk_X5_85 qn_IllegalArgumentException at_IAE_g (fun w h => zBadX_in.1 w (at_IAE_b w h)) at_IAE_t (by decide) (z_k0 (k := 1) (by first | (simp only [kAppend, mP, sP, inP, cl, alwP, alwM, cvP, whP, c1, not_true_eq_false, not_false_eq_true, and_self, and_true, true_and, and_false, false_and, or_true, true_or, or_false, false_or, if_true, if_false, ite_true, ite_false]; done) | (simp [kAppend, mP, sP, inP, cl, alwP, alwM, cvP, whP, c1]; done) | (simp_all [kAppend, mP, sP, inP, cl, alwP, alwM, cvP, whP]; done)) (by decide)) (z_kE (k := 1) (by first | (simp only [kAppend, mP, sP, inP, cl, alwP, alwM, cvP, whP, c1, not_true_eq_false, not_false_eq_true, and_self, and_true, true_and, and_false, false_and, or_true, true_or, or_false, false_or, if_true, if_false, ite_true, ite_false]; done) | (simp [kAppend, mP, sP, inP, cl, alwP, alwM, cvP, whP, c1]; done) | (simp_all [kAppend, mP, sP, inP, cl, alwP, alwM, cvP, whP]; done)) (by decide)) (by decide) (by decide) dX5_append_11 dX5_append_14 dX5_append_15 dX5_append_17 dX5_append_20 (by decide) (by decide)
set_option maxHeartbeats 4000000 in
set_option maxRecDepth 100000 in
theorem c_X5_clearBuffer {nx kp nb : Nat} (hnb : nb ≤ 60) : zM l D (zT cI cC cM cB cJ) yX5_clearBuffer cX5_clearBuffer 2 (some .int) ({ frames := 0, cells := 0, slots := 0, locals := 0 } : Room) [.ref x] (bkW cI cM ad z (txW cC t sg (nI nb) r (xoW x ad h t (hsW cB h ah (nI nx) (nI kp) (hbW cI cM ah zh wr))))) (bkW cI cM ad z (txW cC t sg 0 r (xoW x ad h t (hsW cB h ah (nI nx) (nI kp) (hbW cI cM ah zh wr))))) (some (.int (nI nb))) 0 0 := by
  refine z_enter (by decide) (Nat.le_of_ble_eq_true rfl) ?_
  intro p e s m below meth c A S hr hlocks hnm hN hA hK hP hD hS ls hl
  obtain ⟨hx, hb, hml, hown, hts⟩ := id S
  have hl : lv_has ls 2 [(0, .ref x)] := hl
  have hP : va_P D vwCl (bkW cI cM ad z (txW cC t sg (nI nb) r (xoW x ad h t (hsW cB h ah (nI nx) (nI kp) (hbW cI cM ah zh wr))))) s.heap := hP
  have hD : va_D A (bkW cI cM ad z (txW cC t sg (nI nb) r (xoW x ad h t (hsW cB h ah (nI nx) (nI kp) (hbW cI cM ah zh wr))))) := hD
  refine lv_aload_n hx hb dX5_clearBuffer_0 rfl (lv_at hl 0 rfl) ?_
  refine va_get (v := .ref (t 0)) hx hb hts inTX5 hown hK hP (19 + (3 + (0))) ((bk_r).trans ((tx_r).trans (xo_0))) rfl 2 (by decide) (hts _ qf_X5_26) (fun _ h9 => h9) (rfl) dX5_clearBuffer_1 ?_
  refine va_get (v := .int (nI nb)) hx hb hts inTX2 hown hK hP (19 + (0)) ((bk_r).trans (tx_0)) rfl 2 (by decide) (hts _ qf_X5_175) (fun _ h9 => h9) (rfl) dX5_clearBuffer_4 ?_
  refine lv_istore_n (lv' := [(1, .int (nI nb)), (0, .ref x)]) hx hb dX5_clearBuffer_7 rfl hl (by decide) rfl (fun ls hl => ?_)
  refine lv_aload_n hx hb dX5_clearBuffer_8 rfl (lv_at hl 1 rfl) ?_
  refine va_get (v := .ref (t 0)) hx hb hts inTX5 hown hK hP (19 + (3 + (0))) ((bk_r).trans ((tx_r).trans (xo_0))) rfl 2 (by decide) (hts _ qf_X5_26) (fun _ h9 => h9) (rfl) dX5_clearBuffer_9 ?_
  refine lv_iconst (v := 0) hx hb dX5_clearBuffer_12 (by decide) ?_
  refine z_put (v := .int 0) (ty := .int) (ws2 := bkW cI cM ad z (txW cC t sg 0 r (xoW x ad h t (hsW cB h ah (nI nx) (nI kp) (hbW cI cM ah zh wr))))) hx hb hts inTX2 tyX2 tyX2_ok nmX2 hown hK hP hD hS (19 + (0)) ((bk_r).trans (tx_0)) rfl 2 (by decide) (hts _ qf_X5_175) (fun _ h9 => h9) rfl (by decide +kernel) (rfl) (rfl) (Nat.le_of_ble_eq_true rfl) dX5_clearBuffer_13 ((bk_rs).trans (congrArg (fun w_ => bkW cI cM ad z w_) (rfl))) (fun H locs hP hD hS => ?_)
  refine lv_iload_n hx hb dX5_clearBuffer_16 rfl (lv_at hl 0 rfl) ?_
  exact z_iret hx hb hr hlocks hP hD hK hS (rfl) (by first | rfl | (simp only [minP, maxP, not_true_eq_false, not_false_eq_true, and_self, and_true, true_and, and_false, false_and, or_true, true_or, or_false, false_or, if_true, if_false, ite_true, ite_false]; done) | (simp [minP, maxP]; done) | (simp_all [minP, maxP]; done)) dX5_clearBuffer_17
set_option maxHeartbeats 4000000 in
set_option maxRecDepth 100000 in
theorem c_X5_firstError {nx kp nb : Nat} (hnb : nb ≤ 60) : zM l D (zT cI cC cM cB cJ) yX5_firstError cX5_firstError 1 (some .int) ({ frames := 5, cells := 0, slots := 0, locals := 105 } : Room) [.ref x] (bkW cI cM ad z (txW cC t sg (nI nb) r (xoW x ad h t (hsW cB h ah (nI nx) (nI kp) (hbW cI cM ah zh wr))))) (bkW cI cM ad z (txW cC t sg (nI nb) (feR sg (rstR r) 0 nb) (xoW x ad h t (hsW cB h ah (nI nx) (nI kp) (hbW cI cM ah zh wr))))) (some (.int (nI (feN sg (rstR r) 0 nb)))) 0 0 := by
  refine z_enter (by decide) (Nat.le_of_ble_eq_true rfl) ?_
  intro p e s m below meth c A S hr hlocks hnm hN hA hK hP hD hS ls hl
  obtain ⟨hx, hb, hml, hown, hts⟩ := id S
  have hl : lv_has ls 1 [(0, .ref x)] := hl
  have hP : va_P D vwCl (bkW cI cM ad z (txW cC t sg (nI nb) r (xoW x ad h t (hsW cB h ah (nI nx) (nI kp) (hbW cI cM ah zh wr))))) s.heap := hP
  have hD : va_D A (bkW cI cM ad z (txW cC t sg (nI nb) r (xoW x ad h t (hsW cB h ah (nI nx) (nI kp) (hbW cI cM ah zh wr))))) := hD
  refine lv_aload_n hx hb dX5_firstError_0 rfl (lv_at hl 0 rfl) ?_
  refine va_get (v := .ref (t 0)) hx hb hts inTX5 hown hK hP (19 + (3 + (0))) ((bk_r).trans ((tx_r).trans (xo_0))) rfl 2 (by decide) (hts _ qf_X5_26) (fun _ h9 => h9) (rfl) dX5_firstError_1 ?_
  refine z_callV1 (rest := []) S (c_X2_findError (n := nb) (by omega)) qm_X5_184 v_X2_findError ⟨Nat.le_of_ble_eq_true rfl, Nat.le_of_ble_eq_true rfl⟩ rfl rfl hN hK hP hD hS hA (19 + (0)) ((bk_r).trans (tx_0)) rfl rfl hl.1 rfl (Nat.le_of_ble_eq_true rfl) dX5_firstError_4 ⟨Nat.le_of_ble_eq_true rfl, Nat.le_of_ble_eq_true rfl⟩ (fun H locs hP hD hS => ?_)
  exact z_iret hx hb hr hlocks hP hD hK hS (rfl) (by first | rfl | (simp only [minP, maxP, not_true_eq_false, not_false_eq_true, and_self, and_true, true_and, and_false, false_and, or_true, true_or, or_false, false_or, if_true, if_false, ite_true, ite_false]; done) | (simp [minP, maxP]; done) | (simp_all [minP, maxP]; done)) dX5_firstError_7
end XB

