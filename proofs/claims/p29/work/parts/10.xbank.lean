/-! What the methods answer, as numbers. -/
def minP (x y : Int32) : Int32 := if y < x then y else x
def maxP (x y : Int32) : Int32 := if x < y then y else x
def ripeP (q : Int32) : Int32 := minP (q / 300) 9
def rateP (q : Int32) : Int32 := 10 + ripeP q
def valP (q mn : Int32) : Int32 := mn * rateP q / 10
def decP (b q : Int32) : Int32 := if 0 < b then b * q / 100 else 0
abbrev alwP (z : Nat → Int32) (n g t k : Nat) (mn : Int32) : Prop := (¬ (nI g < 0) ∧ nI g < nI n) ∧ (¬ (nI t < 0) ∧ nI t < nI n) ∧ (¬ (z (14 + 16 * g) = 0) ∧ ¬ (z (14 + 16 * t) = 0)) ∧ ¬ (z (14 + 16 * t + 1) - valP (z (25 + 16 * g + k)) mn < -(z 0))
def payZ (z : Nat → Int32) (j : Nat) (mn : Int32) : Nat → Int32 := upd (upd z (14 + 16 * j + 1) (z (14 + 16 * j + 1) - mn)) 6 (z 6 + mn)
def dealZ (z : Nat → Int32) (g t k : Nat) (mn : Int32) : Nat → Int32 :=
  upd (upd (upd (upd (upd (upd (upd (upd (upd (upd (upd (upd (upd z (14 + 16 * t + 1) (z (14 + 16 * t + 1) - valP (z (25 + 16 * g + k)) mn)) (14 + 16 * t + 8) (z (14 + 16 * t + 8) + valP (z (25 + 16 * g + k)) mn)) (14 + 16 * t + 6) (z (14 + 16 * t + 6) + mn)) (14 + 16 * t + 4) 1)
    (14 + 16 * g + 1) (z (14 + 16 * g + 1) + valP (z (25 + 16 * g + k)) mn)) (14 + 16 * g + 7) (z (14 + 16 * g + 7) + valP (z (25 + 16 * g + k)) mn)) (14 + 16 * g + 5) (z (14 + 16 * g + 5) + mn)) (14 + 16 * g + 4) 1) (25 + 16 * g + k) (minP (z (25 + 16 * g + k) + mn) 9999))
    (14 + 16 * g + 2) (z (14 + 16 * g + 2) - minP (valP (z (25 + 16 * g + k)) mn / 2) (z (14 + 16 * g + 2)))) (14 + 16 * g + 1) (z (14 + 16 * g + 1) + valP (z (25 + 16 * g + k)) mn - minP (valP (z (25 + 16 * g + k)) mn / 2) (z (14 + 16 * g + 2)))) 6 (z 6 + minP (valP (z (25 + 16 * g + k)) mn / 2) (z (14 + 16 * g + 2)))) 9 (z 9 + 1)
def lngP (z : Nat → Int32) (g t k : Nat) : Int32 := if nI g = nI t then -1 else if ¬ (z (14 + 16 * g) = 0) ∧ ¬ (z (14 + 16 * t) = 0) then (if z (14 + 16 * t + 1) + z 0 < 1 then -1 else if rateP (z (25 + 16 * g + k)) < 1 then -1 else minP ((10 * (z (14 + 16 * t + 1) + z 0) + 9) / rateP (z (25 + 16 * g + k))) 600) else -1
abbrev chpP (z : Nat → Int32) (i b k : Nat) (mn : Int32) : Prop := valP (z (25 + 16 * i + k)) mn < valP (z (25 + 16 * b + k)) mn ∨ (valP (z (25 + 16 * i + k)) mn = valP (z (25 + 16 * b + k)) mn ∧ z (14 + 16 * i + 1) < z (14 + 16 * b + 1))
abbrev alwM (z : Nat → Int32) (j : Nat) (mn : Int32) : Prop := ¬ (z (14 + 16 * j) = 0) ∧ z 10 = -1 ∧ ¬ (-(z (14 + 16 * j + 1)) < mn)
abbrev cvP (z : Nat → Int32) (j : Nat) : Prop := ¬ (z 10 = -1) ∧ ¬ (nI j = z 10) ∧ ¬ (z (14 + 16 * j) = 0) ∧ z (142 + j) = 0
def cntT (z : Nat → Int32) : Nat → Int32
  | 0 => 0
  | i + 1 => if z (14 + 16 * i) = 0 then cntT z i else cntT z i + 1
def cntB (z : Nat → Int32) (kd : Int32) : Nat → Int32
  | 0 => 0
  | i + 1 => if z (142 + i) = kd then cntB z kd i + 1 else cntB z kd i
def sumC (z : Nat → Int32) : Nat → Int32
  | 0 => 0
  | i + 1 => sumC z i + maxP (z (14 + 16 * i + 1)) 0
def sumD (z : Nat → Int32) : Nat → Int32
  | 0 => 0
  | i + 1 => sumD z i + minP (z (14 + 16 * i + 1)) 0
def sumF (z : Nat → Int32) (w : Nat) : Nat → Int32
  | 0 => 0
  | i + 1 => sumF z w i + z (14 + 16 * i + w)
def misP (z : Nat → Int32) (n : Nat) : Int32 := if z 10 = -1 then -1 else (cntT z n - 1) / 2 + 1 - cntB z 1 n
def clrB (z : Nat → Int32) : Nat → Nat → Int32
  | 0 => z
  | i + 1 => upd (clrB z i) (142 + i) 0
def dropZ (z : Nat → Int32) (n : Nat) : Nat → Int32 := clrB (upd (upd z 10 (-1)) 11 0) n
theorem clrB_at {z : Nat → Int32} (i : Nat) {k : Nat} (h : k < 142) : clrB z i k = z k := by
  induction i with
  | zero => rfl
  | succ i ih => exact (upd_ne (by omega)).trans ih

section XB
variable {l : Launch} {D : va_G} {cI cC cM cB cJ : ClassId} {ad ad2 : Nat → Nat} {z z2 : Nat → Int32} {wr : va_W}
set_option maxHeartbeats 4000000 in
set_option maxRecDepth 100000 in
theorem c_X5_isWithin (v a b : Int32) : zM l D (zT cI cC cM cB cJ) yX5_isWithin cX5_isWithin 3 (some .boolean) ({ frames := 0, cells := 0, slots := 0, locals := 0 } : Room) [.int v, .int a, .int b] (wr) (wr) (some (.int (bI (¬ (v < a) ∧ ¬ (b < v))))) 0 0 := by
  refine z_enter (by decide) (Nat.le_of_ble_eq_true rfl) ?_
  intro p e s m below meth c A S hr hlocks hnm hN hA hK hP hD hS ls hl
  obtain ⟨hx, hb, hml, hown, hts⟩ := id S
  have hl : lv_has ls 3 [(0, .int v), (1, .int a), (2, .int b)] := hl
  have hP : va_P D vwCl (wr) s.heap := hP
  have hD : va_D A (wr) := hD
  refine lv_iload_n hx hb dX5_isWithin_0 rfl (lv_at hl 0 rfl) ?_
  refine lv_iload_n hx hb dX5_isWithin_1 rfl (lv_at hl 1 rfl) ?_
  refine lv_icmp_lt (tgt := 14) hx hb dX5_isWithin_2 (by decide) (fun c1 => ?_) (fun c1 => ?_)
  · skip
    refine lv_iconst (v := 0) hx hb dX5_isWithin_14 (by decide) ?_
    exact z_zret hx hb hr hlocks hP hD hK hS (rfl) (by first | rfl | (simp only [bI, minP, maxP, c1, not_true_eq_false, not_false_eq_true, and_self, and_true, true_and, and_false, false_and, or_true, true_or, or_false, false_or, if_true, if_false, ite_true, ite_false]; done) | (simp [bI, minP, maxP, c1]; done) | (simp_all [bI, minP, maxP]; done)) rfl dX5_isWithin_15
  · skip
    refine lv_iload_n hx hb dX5_isWithin_5 rfl (lv_at hl 0 rfl) ?_
    refine lv_iload_n hx hb dX5_isWithin_6 rfl (lv_at hl 2 rfl) ?_
    refine lv_icmp_gt (tgt := 14) hx hb dX5_isWithin_7 (by decide) (fun c2 => ?_) (fun c2 => ?_)
    · skip
      refine lv_iconst (v := 0) hx hb dX5_isWithin_14 (by decide) ?_
      exact z_zret hx hb hr hlocks hP hD hK hS (rfl) (by first | rfl | (simp only [bI, minP, maxP, c1, c2, not_true_eq_false, not_false_eq_true, and_self, and_true, true_and, and_false, false_and, or_true, true_or, or_false, false_or, if_true, if_false, ite_true, ite_false]; done) | (simp [bI, minP, maxP, c1, c2]; done) | (simp_all [bI, minP, maxP]; done)) rfl dX5_isWithin_15
    · skip
      refine lv_iconst (v := 1) hx hb dX5_isWithin_10 (by decide) ?_
      refine lv_goto (tgt := 15) hx hb dX5_isWithin_11 (by decide) ?_
      exact z_zret hx hb hr hlocks hP hD hK hS (rfl) (by first | rfl | (simp only [bI, minP, maxP, c1, c2, not_true_eq_false, not_false_eq_true, and_self, and_true, true_and, and_false, false_and, or_true, true_or, or_false, false_or, if_true, if_false, ite_true, ite_false]; done) | (simp [bI, minP, maxP, c1, c2]; done) | (simp_all [bI, minP, maxP]; done)) rfl dX5_isWithin_15
set_option maxHeartbeats 4000000 in
set_option maxRecDepth 100000 in
theorem c_X5_isSkill (v : Int32) : zM l D (zT cI cC cM cB cJ) yX5_isSkill cX5_isSkill 1 (some .boolean) ({ frames := 1, cells := 0, slots := 0, locals := 22 } : Room) [.int v] (wr) (wr) (some (.int (bI (¬ (v < 0) ∧ ¬ (4 < v))))) 0 0 := by
  refine z_enter (by decide) (Nat.le_of_ble_eq_true rfl) ?_
  intro p e s m below meth c A S hr hlocks hnm hN hA hK hP hD hS ls hl
  obtain ⟨hx, hb, hml, hown, hts⟩ := id S
  have hl : lv_has ls 1 [(0, .int v)] := hl
  have hP : va_P D vwCl (wr) s.heap := hP
  have hD : va_D A (wr) := hD
  refine lv_iload_n hx hb dX5_isSkill_0 rfl (lv_at hl 0 rfl) ?_
  refine lv_iconst (v := 0) hx hb dX5_isSkill_1 (by decide) ?_
  refine lv_iconst (v := 4) hx hb dX5_isSkill_2 (by decide) ?_
  refine z_callS1 (rest := []) S (c_X5_isWithin v 0 4) qm_X5_100 t_X5_isWithin ⟨Nat.le_of_ble_eq_true rfl, Nat.le_of_ble_eq_true rfl⟩ rfl rfl hN hK hP hD hS hA rfl hl.1 rfl (Nat.le_of_ble_eq_true rfl) dX5_isSkill_3 ⟨Nat.le_of_ble_eq_true rfl, Nat.le_of_ble_eq_true rfl⟩ (fun H locs hP hD hS => ?_)
  exact z_zret hx hb hr hlocks hP hD hK hS (rfl) (by first | rfl | (simp only [minP, maxP, not_true_eq_false, not_false_eq_true, and_self, and_true, true_and, and_false, false_and, or_true, true_or, or_false, false_or, if_true, if_false, ite_true, ite_false]; done) | (simp [minP, maxP]; done) | (simp_all [minP, maxP]; done)) (bI_nr _) dX5_isSkill_6
set_option maxHeartbeats 4000000 in
set_option maxRecDepth 100000 in
theorem c_X5_isSetting (v : Int32) : zM l D (zT cI cC cM cB cJ) yX5_isSetting cX5_isSetting 1 (some .boolean) ({ frames := 1, cells := 0, slots := 0, locals := 22 } : Room) [.int v] (wr) (wr) (some (.int (bI (¬ (v < 0) ∧ ¬ (4 < v))))) 0 0 := by
  refine z_enter (by decide) (Nat.le_of_ble_eq_true rfl) ?_
  intro p e s m below meth c A S hr hlocks hnm hN hA hK hP hD hS ls hl
  obtain ⟨hx, hb, hml, hown, hts⟩ := id S
  have hl : lv_has ls 1 [(0, .int v)] := hl
  have hP : va_P D vwCl (wr) s.heap := hP
  have hD : va_D A (wr) := hD
  refine lv_iload_n hx hb dX5_isSetting_0 rfl (lv_at hl 0 rfl) ?_
  refine lv_iconst (v := 0) hx hb dX5_isSetting_1 (by decide) ?_
  refine lv_iconst (v := 4) hx hb dX5_isSetting_2 (by decide) ?_
  refine z_callS1 (rest := []) S (c_X5_isWithin v 0 4) qm_X5_100 t_X5_isWithin ⟨Nat.le_of_ble_eq_true rfl, Nat.le_of_ble_eq_true rfl⟩ rfl rfl hN hK hP hD hS hA rfl hl.1 rfl (Nat.le_of_ble_eq_true rfl) dX5_isSetting_3 ⟨Nat.le_of_ble_eq_true rfl, Nat.le_of_ble_eq_true rfl⟩ (fun H locs hP hD hS => ?_)
  exact z_zret hx hb hr hlocks hP hD hK hS (rfl) (by first | rfl | (simp only [minP, maxP, not_true_eq_false, not_false_eq_true, and_self, and_true, true_and, and_false, false_and, or_true, true_or, or_false, false_or, if_true, if_false, ite_true, ite_false]; done) | (simp [minP, maxP]; done) | (simp_all [minP, maxP]; done)) (bI_nr _) dX5_isSetting_6
set_option maxHeartbeats 4000000 in
set_option maxRecDepth 100000 in
theorem c_X5_isDealMinutes (v : Int32) : zM l D (zT cI cC cM cB cJ) yX5_isDealMinutes cX5_isDealMinutes 1 (some .boolean) ({ frames := 1, cells := 0, slots := 0, locals := 22 } : Room) [.int v] (wr) (wr) (some (.int (bI (¬ (v < 1) ∧ ¬ (600 < v))))) 0 0 := by
  refine z_enter (by decide) (Nat.le_of_ble_eq_true rfl) ?_
  intro p e s m below meth c A S hr hlocks hnm hN hA hK hP hD hS ls hl
  obtain ⟨hx, hb, hml, hown, hts⟩ := id S
  have hl : lv_has ls 1 [(0, .int v)] := hl
  have hP : va_P D vwCl (wr) s.heap := hP
  have hD : va_D A (wr) := hD
  refine lv_iload_n hx hb dX5_isDealMinutes_0 rfl (lv_at hl 0 rfl) ?_
  refine lv_iconst (v := 1) hx hb dX5_isDealMinutes_1 (by decide) ?_
  refine lv_sipush (v := 600) hx hb dX5_isDealMinutes_2 (by decide) ?_
  refine z_callS1 (rest := []) S (c_X5_isWithin v 1 600) qm_X5_100 t_X5_isWithin ⟨Nat.le_of_ble_eq_true rfl, Nat.le_of_ble_eq_true rfl⟩ rfl rfl hN hK hP hD hS hA rfl hl.1 rfl (Nat.le_of_ble_eq_true rfl) dX5_isDealMinutes_5 ⟨Nat.le_of_ble_eq_true rfl, Nat.le_of_ble_eq_true rfl⟩ (fun H locs hP hD hS => ?_)
  exact z_zret hx hb hr hlocks hP hD hK hS (rfl) (by first | rfl | (simp only [minP, maxP, not_true_eq_false, not_false_eq_true, and_self, and_true, true_and, and_false, false_and, or_true, true_or, or_false, false_or, if_true, if_false, ite_true, ite_false]; done) | (simp [minP, maxP]; done) | (simp_all [minP, maxP]; done)) (bI_nr _) dX5_isDealMinutes_8
set_option maxHeartbeats 4000000 in
set_option maxRecDepth 100000 in
theorem c_X5_decayingPart (b q : Int32) : zM l D (zT cI cC cM cB cJ) yX5_decayingPart cX5_decayingPart 2 (some .int) ({ frames := 0, cells := 0, slots := 0, locals := 0 } : Room) [.int b, .int q] (wr) (wr) (some (.int (decP b q))) 0 0 := by
  refine z_enter (by decide) (Nat.le_of_ble_eq_true rfl) ?_
  intro p e s m below meth c A S hr hlocks hnm hN hA hK hP hD hS ls hl
  obtain ⟨hx, hb, hml, hown, hts⟩ := id S
  have hl : lv_has ls 2 [(0, .int b), (1, .int q)] := hl
  have hP : va_P D vwCl (wr) s.heap := hP
  have hD : va_D A (wr) := hD
  refine lv_iload_n hx hb dX5_decayingPart_0 rfl (lv_at hl 0 rfl) ?_
  refine lv_if_le (tgt := 13) hx hb dX5_decayingPart_1 (by decide) (fun c1 => ?_) (fun c1 => ?_)
  · have c1 := z_nlt c1
    refine lv_iconst (v := 0) hx hb dX5_decayingPart_13 (by decide) ?_
    exact z_iret hx hb hr hlocks hP hD hK hS (rfl) (by first | rfl | (simp only [decP, minP, maxP, c1, not_true_eq_false, not_false_eq_true, and_self, and_true, true_and, and_false, false_and, or_true, true_or, or_false, false_or, if_true, if_false, ite_true, ite_false]; done) | (simp [decP, minP, maxP, c1]; done) | (simp_all [decP, minP, maxP]; done)) dX5_decayingPart_14
  · have c1 := z_lt c1
    refine lv_iload_n hx hb dX5_decayingPart_4 rfl (lv_at hl 0 rfl) ?_
    refine lv_iload_n hx hb dX5_decayingPart_5 rfl (lv_at hl 1 rfl) ?_
    refine lv_imul hx hb dX5_decayingPart_6  ?_
    refine lv_bipush (v := 100) hx hb dX5_decayingPart_7 (by decide) ?_
    refine lv_idiv hx hb dX5_decayingPart_9 (by decide) ?_
    refine lv_goto (tgt := 14) hx hb dX5_decayingPart_10 (by decide) ?_
    exact z_iret hx hb hr hlocks hP hD hK hS (rfl) (by first | rfl | (simp only [decP, minP, maxP, c1, not_true_eq_false, not_false_eq_true, and_self, and_true, true_and, and_false, false_and, or_true, true_or, or_false, false_or, if_true, if_false, ite_true, ite_false]; done) | (simp [decP, minP, maxP, c1]; done) | (simp_all [decP, minP, maxP]; done)) dX5_decayingPart_14
set_option maxHeartbeats 4000000 in
set_option maxRecDepth 100000 in
theorem c_X4_ripeness (j k : Nat) (hj : j < 8) (hk : k < 5) : zM l D (zT cI cC cM cB cJ) yX4_ripeness cX4_ripeness 2 (some .int) ({ frames := 1, cells := 0, slots := 0, locals := 21 } : Room) [.ref (ad (3 + j)), .int (nI k)] (bkW cI cM ad z wr) (bkW cI cM ad z wr) (some (.int (ripeP (z (25 + 16 * j + k))))) 0 0 := by
  refine z_enter (by decide) (Nat.le_of_ble_eq_true rfl) ?_
  intro p e s m below meth c A S hr hlocks hnm hN hA hK hP hD hS ls hl
  obtain ⟨hx, hb, hml, hown, hts⟩ := id S
  have hl : lv_has ls 2 [(0, .ref (ad (3 + j))), (1, .int (nI k))] := hl
  have hP : va_P D vwCl (bkW cI cM ad z wr) s.heap := hP
  have hD : va_D A (bkW cI cM ad z wr) := hD
  refine lv_aload_n hx hb dX4_ripeness_0 rfl (lv_at hl 0 rfl) ?_
  refine va_get (v := .ref (ad (11 + j))) hx hb hts inTX4 hown hK hP (3 + j) (bk_m (show j < 8 by omega)) rfl 0 (by decide) (hts _ qf_X4_9) (fun _ h9 => h9) (rfl) dX4_ripeness_1 ?_
  refine lv_iload_n hx hb dX4_ripeness_4 rfl (lv_at hl 1 rfl) ?_
  refine va_iald hx hb hK hP (11 + j) 0 (bk_p (show j < 8 by omega)) rfl (vp_in_nI (show k < 5 by omega) (by omega)) dX4_ripeness_5 ?_
  refine z_top (v2 := .int (z (25 + 16 * j + k))) (congrArg Value.int ((pfn_at rfl (show k < 5 by omega)).trans (rfl))) ?_
  refine lv_sipush (v := 300) hx hb dX4_ripeness_6 (by decide) ?_
  refine lv_idiv hx hb dX4_ripeness_9 (by decide) ?_
  refine lv_bipush (v := 9) hx hb dX4_ripeness_10 (by decide) ?_
  refine va_mmin hx hb (hml.trans hl.1.symm) hown (hts _ qm_X4_53) (hts _ qt_Mmin) (hts _ qn_J9) (hts _ qc_Mmin) (Nat.le_of_ble_eq_true rfl) (Nat.le_of_ble_eq_true rfl) (Nat.le_of_ble_eq_true rfl) (Nat.le_of_ble_eq_true rfl) dX4_ripeness_12 ?_
  exact z_iret hx hb hr hlocks hP hD hK hS (rfl) (by first | rfl | (simp only [ripeP, minP, maxP, not_true_eq_false, not_false_eq_true, and_self, and_true, true_and, and_false, false_and, or_true, true_or, or_false, false_or, if_true, if_false, ite_true, ite_false]; done) | (simp [ripeP, minP, maxP]; done) | (simp_all [ripeP, minP, maxP]; done)) dX4_ripeness_15
set_option maxHeartbeats 4000000 in
set_option maxRecDepth 100000 in
theorem c_X4_dealRate (j k : Nat) (hj : j < 8) (hk : k < 5) : zM l D (zT cI cC cM cB cJ) yX4_dealRate cX4_dealRate 2 (some .int) ({ frames := 2, cells := 0, slots := 0, locals := 42 } : Room) [.ref (ad (3 + j)), .int (nI k)] (bkW cI cM ad z wr) (bkW cI cM ad z wr) (some (.int (rateP (z (25 + 16 * j + k))))) 0 0 := by
  refine z_enter (by decide) (Nat.le_of_ble_eq_true rfl) ?_
  intro p e s m below meth c A S hr hlocks hnm hN hA hK hP hD hS ls hl
  obtain ⟨hx, hb, hml, hown, hts⟩ := id S
  have hl : lv_has ls 2 [(0, .ref (ad (3 + j))), (1, .int (nI k))] := hl
  have hP : va_P D vwCl (bkW cI cM ad z wr) s.heap := hP
  have hD : va_D A (bkW cI cM ad z wr) := hD
  refine lv_bipush (v := 10) hx hb dX4_dealRate_0 (by decide) ?_
  refine lv_aload_n hx hb dX4_dealRate_2 rfl (lv_at hl 0 rfl) ?_
  refine lv_iload_n hx hb dX4_dealRate_3 rfl (lv_at hl 1 rfl) ?_
  refine z_callV1 (rest := [.int 10]) S (c_X4_ripeness j k (show j < 8 by omega) (show k < 5 by omega)) qm_X4_59 v_X4_ripeness ⟨Nat.le_of_ble_eq_true rfl, Nat.le_of_ble_eq_true rfl⟩ rfl rfl hN hK hP hD hS hA (3 + j) (bk_m (show j < 8 by omega)) rfl rfl hl.1 rfl (Nat.le_of_ble_eq_true rfl) dX4_dealRate_4 ⟨Nat.le_of_ble_eq_true rfl, Nat.le_of_ble_eq_true rfl⟩ (fun H locs hP hD hS => ?_)
  refine lv_iadd hx hb dX4_dealRate_7  ?_
  exact z_iret hx hb hr hlocks hP hD hK hS (rfl) (by first | rfl | (simp only [rateP, minP, maxP, not_true_eq_false, not_false_eq_true, and_self, and_true, true_and, and_false, false_and, or_true, true_or, or_false, false_or, if_true, if_false, ite_true, ite_false]; done) | (simp [rateP, minP, maxP]; done) | (simp_all [rateP, minP, maxP]; done)) dX4_dealRate_8
set_option maxHeartbeats 4000000 in
set_option maxRecDepth 100000 in
theorem c_X4_dealValue (j k : Nat) (hj : j < 8) (hk : k < 5) (mn : Int32) : zM l D (zT cI cC cM cB cJ) yX4_dealValue cX4_dealValue 3 (some .int) ({ frames := 3, cells := 0, slots := 0, locals := 63 } : Room) [.ref (ad (3 + j)), .int (nI k), .int mn] (bkW cI cM ad z wr) (bkW cI cM ad z wr) (some (.int (valP (z (25 + 16 * j + k)) mn))) 0 0 := by
  refine z_enter (by decide) (Nat.le_of_ble_eq_true rfl) ?_
  intro p e s m below meth c A S hr hlocks hnm hN hA hK hP hD hS ls hl
  obtain ⟨hx, hb, hml, hown, hts⟩ := id S
  have hl : lv_has ls 3 [(0, .ref (ad (3 + j))), (1, .int (nI k)), (2, .int mn)] := hl
  have hP : va_P D vwCl (bkW cI cM ad z wr) s.heap := hP
  have hD : va_D A (bkW cI cM ad z wr) := hD
  refine lv_iload_n hx hb dX4_dealValue_0 rfl (lv_at hl 2 rfl) ?_
  refine lv_aload_n hx hb dX4_dealValue_1 rfl (lv_at hl 0 rfl) ?_
  refine lv_iload_n hx hb dX4_dealValue_2 rfl (lv_at hl 1 rfl) ?_
  refine z_callV1 (rest := [.int mn]) S (c_X4_dealRate j k (show j < 8 by omega) (show k < 5 by omega)) qm_X4_63 v_X4_dealRate ⟨Nat.le_of_ble_eq_true rfl, Nat.le_of_ble_eq_true rfl⟩ rfl rfl hN hK hP hD hS hA (3 + j) (bk_m (show j < 8 by omega)) rfl rfl hl.1 rfl (Nat.le_of_ble_eq_true rfl) dX4_dealValue_3 ⟨Nat.le_of_ble_eq_true rfl, Nat.le_of_ble_eq_true rfl⟩ (fun H locs hP hD hS => ?_)
  refine lv_imul hx hb dX4_dealValue_6  ?_
  refine lv_bipush (v := 10) hx hb dX4_dealValue_7 (by decide) ?_
  refine lv_idiv hx hb dX4_dealValue_9 (by decide) ?_
  exact z_iret hx hb hr hlocks hP hD hK hS (rfl) (by first | rfl | (simp only [valP, minP, maxP, not_true_eq_false, not_false_eq_true, and_self, and_true, true_and, and_false, false_and, or_true, true_or, or_false, false_or, if_true, if_false, ite_true, ite_false]; done) | (simp [valP, minP, maxP]; done) | (simp_all [valP, minP, maxP]; done)) dX4_dealValue_10
set_option maxHeartbeats 4000000 in
set_option maxRecDepth 100000 in
theorem c_X0_isMember {n : Nat} (hn : n ≤ 8) (hz : z 5 = nI n) (x : Int32) : zM l D (zT cI cC cM cB cJ) yX0_isMember cX0_isMember 2 (some .boolean) ({ frames := 0, cells := 0, slots := 0, locals := 0 } : Room) [.ref (ad 0), .int x] (bkW cI cM ad z wr) (bkW cI cM ad z wr) (some (.int (bI (¬ (x < 0) ∧ x < nI n)))) 0 0 := by
  refine z_enter (by decide) (Nat.le_of_ble_eq_true rfl) ?_
  intro p e s m below meth c A S hr hlocks hnm hN hA hK hP hD hS ls hl
  obtain ⟨hx, hb, hml, hown, hts⟩ := id S
  have hl : lv_has ls 2 [(0, .ref (ad 0)), (1, .int x)] := hl
  have hP : va_P D vwCl (bkW cI cM ad z wr) s.heap := hP
  have hD : va_D A (bkW cI cM ad z wr) := hD
  refine lv_iload_n hx hb dX0_isMember_0 rfl (lv_at hl 1 rfl) ?_
  refine lv_if_lt (tgt := 16) hx hb dX0_isMember_1 (by decide) (fun c1 => ?_) (fun c1 => ?_)
  · skip
    refine lv_iconst (v := 0) hx hb dX0_isMember_16 (by decide) ?_
    exact z_zret hx hb hr hlocks hP hD hK hS (rfl) (by first | rfl | (simp only [bI, minP, maxP, c1, not_true_eq_false, not_false_eq_true, and_self, and_true, true_and, and_false, false_and, or_true, true_or, or_false, false_or, if_true, if_false, ite_true, ite_false]; done) | (simp [bI, minP, maxP, c1]; done) | (simp_all [bI, minP, maxP]; done)) rfl dX0_isMember_17
  · skip
    refine lv_iload_n hx hb dX0_isMember_4 rfl (lv_at hl 1 rfl) ?_
    refine lv_aload_n hx hb dX0_isMember_5 rfl (lv_at hl 0 rfl) ?_
    refine va_get (v := .int (nI n)) hx hb hts inTX0 hown hK hP (0) (bk_0) rfl 2 (by decide) (hts _ qf_X0_33) (fun _ h9 => h9) (congrArg (fun x => some (Value.int x)) (hz)) dX0_isMember_6 ?_
    refine lv_icmp_ge (tgt := 16) hx hb dX0_isMember_9 (by decide) (fun c2 => ?_) (fun c2 => ?_)
    · have c2 := z_nlt c2
      refine lv_iconst (v := 0) hx hb dX0_isMember_16 (by decide) ?_
      exact z_zret hx hb hr hlocks hP hD hK hS (rfl) (by first | rfl | (simp only [bI, minP, maxP, c1, c2, not_true_eq_false, not_false_eq_true, and_self, and_true, true_and, and_false, false_and, or_true, true_or, or_false, false_or, if_true, if_false, ite_true, ite_false]; done) | (simp [bI, minP, maxP, c1, c2]; done) | (simp_all [bI, minP, maxP]; done)) rfl dX0_isMember_17
    · have c2 := z_lt c2
      refine lv_iconst (v := 1) hx hb dX0_isMember_12 (by decide) ?_
      refine lv_goto (tgt := 17) hx hb dX0_isMember_13 (by decide) ?_
      exact z_zret hx hb hr hlocks hP hD hK hS (rfl) (by first | rfl | (simp only [bI, minP, maxP, c1, c2, not_true_eq_false, not_false_eq_true, and_self, and_true, true_and, and_false, false_and, or_true, true_or, or_false, false_or, if_true, if_false, ite_true, ite_false]; done) | (simp [bI, minP, maxP, c1, c2]; done) | (simp_all [bI, minP, maxP]; done)) rfl dX0_isMember_17
set_option maxHeartbeats 4000000 in
set_option maxRecDepth 100000 in
theorem c_X0_areBothThere (g t : Nat) (hg : g < 8) (ht : t < 8) : zM l D (zT cI cC cM cB cJ) yX0_areBothThere cX0_areBothThere 3 (some .boolean) ({ frames := 0, cells := 0, slots := 0, locals := 0 } : Room) [.ref (ad 0), .int (nI g), .int (nI t)] (bkW cI cM ad z wr) (bkW cI cM ad z wr) (some (.int (bI (¬ (z (14 + 16 * g) = 0) ∧ ¬ (z (14 + 16 * t) = 0))))) 0 0 := by
  refine z_enter (by decide) (Nat.le_of_ble_eq_true rfl) ?_
  intro p e s m below meth c A S hr hlocks hnm hN hA hK hP hD hS ls hl
  obtain ⟨hx, hb, hml, hown, hts⟩ := id S
  have hl : lv_has ls 3 [(0, .ref (ad 0)), (1, .int (nI g)), (2, .int (nI t))] := hl
  have hP : va_P D vwCl (bkW cI cM ad z wr) s.heap := hP
  have hD : va_D A (bkW cI cM ad z wr) := hD
  refine lv_aload_n hx hb dX0_areBothThere_0 rfl (lv_at hl 0 rfl) ?_
  refine va_get (v := .ref (ad 1)) hx hb hts inTX0 hown hK hP (0) (bk_0) rfl 0 (by decide) (hts _ qf_X0_11) (fun _ h9 => h9) (rfl) dX0_areBothThere_1 ?_
  refine lv_iload_n hx hb dX0_areBothThere_4 rfl (lv_at hl 1 rfl) ?_
  refine va_aldq hx hb hK hP (1) 2 (bk_1) rfl (vp_in_nI (show g < 8 by omega) (by omega)) dX0_areBothThere_5 ?_
  refine z_top (v2 := .ref (ad (3 + g))) (z_rf rfl) ?_
  refine va_get (v := .int (z (14 + 16 * g))) hx hb hts inTX4 hown hK hP (3 + g) (bk_m (show g < 8 by omega)) rfl 1 (by decide) (hts _ qf_X0_51) (fun _ h9 => h9) (rfl) dX0_areBothThere_6 ?_
  refine lv_if_eq (tgt := 28) hx hb dX0_areBothThere_9 (by decide) (fun c1 => ?_) (fun c1 => ?_)
  · skip
    refine lv_iconst (v := 0) hx hb dX0_areBothThere_28 (by decide) ?_
    exact z_zret hx hb hr hlocks hP hD hK hS (rfl) (by first | rfl | (simp only [bI, minP, maxP, c1, not_true_eq_false, not_false_eq_true, and_self, and_true, true_and, and_false, false_and, or_true, true_or, or_false, false_or, if_true, if_false, ite_true, ite_false]; done) | (simp [bI, minP, maxP, c1]; done) | (simp_all [bI, minP, maxP]; done)) rfl dX0_areBothThere_29
  · skip
    refine lv_aload_n hx hb dX0_areBothThere_12 rfl (lv_at hl 0 rfl) ?_
    refine va_get (v := .ref (ad 1)) hx hb hts inTX0 hown hK hP (0) (bk_0) rfl 0 (by decide) (hts _ qf_X0_11) (fun _ h9 => h9) (rfl) dX0_areBothThere_13 ?_
    refine lv_iload_n hx hb dX0_areBothThere_16 rfl (lv_at hl 2 rfl) ?_
    refine va_aldq hx hb hK hP (1) 2 (bk_1) rfl (vp_in_nI (show t < 8 by omega) (by omega)) dX0_areBothThere_17 ?_
    refine z_top (v2 := .ref (ad (3 + t))) (z_rf rfl) ?_
    refine va_get (v := .int (z (14 + 16 * t))) hx hb hts inTX4 hown hK hP (3 + t) (bk_m (show t < 8 by omega)) rfl 1 (by decide) (hts _ qf_X0_51) (fun _ h9 => h9) (rfl) dX0_areBothThere_18 ?_
    refine lv_if_eq (tgt := 28) hx hb dX0_areBothThere_21 (by decide) (fun c2 => ?_) (fun c2 => ?_)
    · skip
      refine lv_iconst (v := 0) hx hb dX0_areBothThere_28 (by decide) ?_
      exact z_zret hx hb hr hlocks hP hD hK hS (rfl) (by first | rfl | (simp only [bI, minP, maxP, c1, c2, not_true_eq_false, not_false_eq_true, and_self, and_true, true_and, and_false, false_and, or_true, true_or, or_false, false_or, if_true, if_false, ite_true, ite_false]; done) | (simp [bI, minP, maxP, c1, c2]; done) | (simp_all [bI, minP, maxP]; done)) rfl dX0_areBothThere_29
    · skip
      refine lv_iconst (v := 1) hx hb dX0_areBothThere_24 (by decide) ?_
      refine lv_goto (tgt := 29) hx hb dX0_areBothThere_25 (by decide) ?_
      exact z_zret hx hb hr hlocks hP hD hK hS (rfl) (by first | rfl | (simp only [bI, minP, maxP, c1, c2, not_true_eq_false, not_false_eq_true, and_self, and_true, true_and, and_false, false_and, or_true, true_or, or_false, false_or, if_true, if_false, ite_true, ite_false]; done) | (simp [bI, minP, maxP, c1, c2]; done) | (simp_all [bI, minP, maxP]; done)) rfl dX0_areBothThere_29
set_option maxHeartbeats 4000000 in
set_option maxRecDepth 100000 in
theorem c_X0_canPay (j : Nat) (hj : j < 8) (v : Int32) : zM l D (zT cI cC cM cB cJ) yX0_canPay cX0_canPay 3 (some .boolean) ({ frames := 0, cells := 0, slots := 0, locals := 0 } : Room) [.ref (ad 0), .int (nI j), .int v] (bkW cI cM ad z wr) (bkW cI cM ad z wr) (some (.int (bI (¬ (z (14 + 16 * j + 1) - v < -(z 0)))))) 0 0 := by
  refine z_enter (by decide) (Nat.le_of_ble_eq_true rfl) ?_
  intro p e s m below meth c A S hr hlocks hnm hN hA hK hP hD hS ls hl
  obtain ⟨hx, hb, hml, hown, hts⟩ := id S
  have hl : lv_has ls 3 [(0, .ref (ad 0)), (1, .int (nI j)), (2, .int v)] := hl
  have hP : va_P D vwCl (bkW cI cM ad z wr) s.heap := hP
  have hD : va_D A (bkW cI cM ad z wr) := hD
  refine lv_aload_n hx hb dX0_canPay_0 rfl (lv_at hl 0 rfl) ?_
  refine va_get (v := .ref (ad 1)) hx hb hts inTX0 hown hK hP (0) (bk_0) rfl 0 (by decide) (hts _ qf_X0_11) (fun _ h9 => h9) (rfl) dX0_canPay_1 ?_
  refine lv_iload_n hx hb dX0_canPay_4 rfl (lv_at hl 1 rfl) ?_
  refine va_aldq hx hb hK hP (1) 2 (bk_1) rfl (vp_in_nI (show j < 8 by omega) (by omega)) dX0_canPay_5 ?_
  refine z_top (v2 := .ref (ad (3 + j))) (z_rf rfl) ?_
  refine va_get (v := .int (z (14 + 16 * j + 1))) hx hb hts inTX4 hown hK hP (3 + j) (bk_m (show j < 8 by omega)) rfl 3 (by decide) (hts _ qf_X0_55) (fun _ h9 => h9) (rfl) dX0_canPay_6 ?_
  refine lv_iload_n hx hb dX0_canPay_9 rfl (lv_at hl 2 rfl) ?_
  refine lv_isub hx hb dX0_canPay_10  ?_
  refine lv_aload_n hx hb dX0_canPay_11 rfl (lv_at hl 0 rfl) ?_
  refine va_get (v := .ref (ad 2)) hx hb hts inTX0 hown hK hP (0) (bk_0) rfl 1 (by decide) (hts _ qf_X0_18) (fun _ h9 => h9) (rfl) dX0_canPay_12 ?_
  refine lv_iconst (v := 0) hx hb dX0_canPay_15 (by decide) ?_
  refine va_iald hx hb hK hP (2) 0 (bk_2) rfl (vp_in_nI (show 0 < 5 by decide) (by omega)) dX0_canPay_16 ?_
  refine z_top (v2 := .int (z 0)) (congrArg Value.int ((sfn_at rfl (show 0 < 5 by decide)).trans (rfl))) ?_
  refine lv_ineg hx hb dX0_canPay_17 ?_
  refine lv_icmp_lt (tgt := 25) hx hb dX0_canPay_18 (by decide) (fun c1 => ?_) (fun c1 => ?_)
  · skip
    refine lv_iconst (v := 0) hx hb dX0_canPay_25 (by decide) ?_
    exact z_zret hx hb hr hlocks hP hD hK hS (rfl) (by first | rfl | (simp only [bI, minP, maxP, c1, not_true_eq_false, not_false_eq_true, and_self, and_true, true_and, and_false, false_and, or_true, true_or, or_false, false_or, if_true, if_false, ite_true, ite_false]; done) | (simp [bI, minP, maxP, c1]; done) | (simp_all [bI, minP, maxP]; done)) rfl dX0_canPay_26
  · skip
    refine lv_iconst (v := 1) hx hb dX0_canPay_21 (by decide) ?_
    refine lv_goto (tgt := 26) hx hb dX0_canPay_22 (by decide) ?_
    exact z_zret hx hb hr hlocks hP hD hK hS (rfl) (by first | rfl | (simp only [bI, minP, maxP, c1, not_true_eq_false, not_false_eq_true, and_self, and_true, true_and, and_false, false_and, or_true, true_or, or_false, false_or, if_true, if_false, ite_true, ite_false]; done) | (simp [bI, minP, maxP, c1]; done) | (simp_all [bI, minP, maxP]; done)) rfl dX0_canPay_26
set_option maxHeartbeats 4000000 in
set_option maxRecDepth 100000 in
theorem c_X0_allowsDeal {n : Nat} (hn : n ≤ 8) (hz : z 5 = nI n) (g t k : Nat) (hg : g < 8) (ht : t < 8) (hk : k < 5) (mn : Int32) : zM l D (zT cI cC cM cB cJ) yX0_allowsDeal cX0_allowsDeal 5 (some .boolean) ({ frames := 4, cells := 0, slots := 0, locals := 85 } : Room) [.ref (ad 0), .int (nI g), .int (nI t), .int (nI k), .int mn] (bkW cI cM ad z wr) (bkW cI cM ad z wr) (some (.int (bI (alwP z n g t k mn)))) 0 0 := by
  refine z_enter (by decide) (Nat.le_of_ble_eq_true rfl) ?_
  intro p e s m below meth c A S hr hlocks hnm hN hA hK hP hD hS ls hl
  obtain ⟨hx, hb, hml, hown, hts⟩ := id S
  have hl : lv_has ls 5 [(0, .ref (ad 0)), (1, .int (nI g)), (2, .int (nI t)), (3, .int (nI k)), (4, .int mn)] := hl
  have hP : va_P D vwCl (bkW cI cM ad z wr) s.heap := hP
  have hD : va_D A (bkW cI cM ad z wr) := hD
  refine lv_aload_n hx hb dX0_allowsDeal_0 rfl (lv_at hl 0 rfl) ?_
  refine lv_iload_n hx hb dX0_allowsDeal_1 rfl (lv_at hl 1 rfl) ?_
  refine z_callV1 (rest := []) S (c_X0_isMember (n := n) (show n ≤ 8 by omega) (hz) (nI g)) qm_X0_79 v_X0_isMember ⟨Nat.le_of_ble_eq_true rfl, Nat.le_of_ble_eq_true rfl⟩ rfl rfl hN hK hP hD hS hA (0) (bk_0) rfl rfl hl.1 rfl (Nat.le_of_ble_eq_true rfl) dX0_allowsDeal_2 ⟨Nat.le_of_ble_eq_true rfl, Nat.le_of_ble_eq_true rfl⟩ (fun H locs hP hD hS => ?_)
  refine lv_if_eq (tgt := 25) hx hb dX0_allowsDeal_5 (by decide) (fun c1 => ?_) (fun c1 => ?_)
  · have c1 := bI_0 c1
    refine lv_iconst (v := 0) hx hb dX0_allowsDeal_25 (by decide) ?_
    exact z_zret hx hb hr hlocks hP hD hK hS (rfl) (by first | rfl | (simp only [bI, alwP, minP, maxP, c1, not_true_eq_false, not_false_eq_true, and_self, and_true, true_and, and_false, false_and, or_true, true_or, or_false, false_or, if_true, if_false, ite_true, ite_false]; done) | (simp [bI, alwP, minP, maxP, c1]; done) | (simp_all [bI, alwP, minP, maxP]; done)) rfl dX0_allowsDeal_26
  · have c1 := bI_1 c1
    refine lv_aload_n hx hb dX0_allowsDeal_8 rfl (lv_at hl 0 rfl) ?_
    refine lv_iload_n hx hb dX0_allowsDeal_9 rfl (lv_at hl 2 rfl) ?_
    refine z_callV1 (rest := []) S (c_X0_isMember (n := n) (show n ≤ 8 by omega) (hz) (nI t)) qm_X0_79 v_X0_isMember ⟨Nat.le_of_ble_eq_true rfl, Nat.le_of_ble_eq_true rfl⟩ rfl rfl hN hK hP hD hS hA (0) (bk_0) rfl rfl hl.1 rfl (Nat.le_of_ble_eq_true rfl) dX0_allowsDeal_10 ⟨Nat.le_of_ble_eq_true rfl, Nat.le_of_ble_eq_true rfl⟩ (fun H locs hP hD hS => ?_)
    refine lv_if_eq (tgt := 25) hx hb dX0_allowsDeal_13 (by decide) (fun c2 => ?_) (fun c2 => ?_)
    · have c2 := bI_0 c2
      refine lv_iconst (v := 0) hx hb dX0_allowsDeal_25 (by decide) ?_
      exact z_zret hx hb hr hlocks hP hD hK hS (rfl) (by first | rfl | (simp only [bI, alwP, minP, maxP, c1, c2, not_true_eq_false, not_false_eq_true, and_self, and_true, true_and, and_false, false_and, or_true, true_or, or_false, false_or, if_true, if_false, ite_true, ite_false]; done) | (simp [bI, alwP, minP, maxP, c1, c2]; done) | (simp_all [bI, alwP, minP, maxP]; done)) rfl dX0_allowsDeal_26
    · have c2 := bI_1 c2
      refine lv_aload_n hx hb dX0_allowsDeal_16 rfl (lv_at hl 0 rfl) ?_
      refine lv_iload_n hx hb dX0_allowsDeal_17 rfl (lv_at hl 1 rfl) ?_
      refine lv_iload_n hx hb dX0_allowsDeal_18 rfl (lv_at hl 2 rfl) ?_
      refine z_callV1 (rest := []) S (c_X0_areBothThere g t (show g < 8 by omega) (show t < 8 by omega)) qm_X0_83 v_X0_areBothThere ⟨Nat.le_of_ble_eq_true rfl, Nat.le_of_ble_eq_true rfl⟩ rfl rfl hN hK hP hD hS hA (0) (bk_0) rfl rfl hl.1 rfl (Nat.le_of_ble_eq_true rfl) dX0_allowsDeal_19 ⟨Nat.le_of_ble_eq_true rfl, Nat.le_of_ble_eq_true rfl⟩ (fun H locs hP hD hS => ?_)
      refine lv_if_ne (tgt := 27) hx hb dX0_allowsDeal_22 (by decide) (fun c3 => ?_) (fun c3 => ?_)
      · have c3 := bI_1 c3
        refine lv_aload_n hx hb dX0_allowsDeal_27 rfl (lv_at hl 0 rfl) ?_
        refine lv_iload_n hx hb dX0_allowsDeal_28 rfl (lv_at hl 2 rfl) ?_
        refine lv_aload_n hx hb dX0_allowsDeal_29 rfl (lv_at hl 0 rfl) ?_
        refine va_get (v := .ref (ad 1)) hx hb hts inTX0 hown hK hP (0) (bk_0) rfl 0 (by decide) (hts _ qf_X0_11) (fun _ h9 => h9) (rfl) dX0_allowsDeal_30 ?_
        refine lv_iload_n hx hb dX0_allowsDeal_33 rfl (lv_at hl 1 rfl) ?_
        refine va_aldq hx hb hK hP (1) 2 (bk_1) rfl (vp_in_nI (show g < 8 by omega) (by omega)) dX0_allowsDeal_34 ?_
        refine z_top (v2 := .ref (ad (3 + g))) (z_rf rfl) ?_
        refine lv_iload_n hx hb dX0_allowsDeal_35 rfl (lv_at hl 3 rfl) ?_
        refine lv_iload hx hb dX0_allowsDeal_36 (lv_at hl 4 rfl) ?_
        refine z_callV1 (rest := [.int (nI t), .ref (ad 0)]) S (c_X4_dealValue g k (show g < 8 by omega) (show k < 5 by omega) mn) qm_X0_87 v_X4_dealValue ⟨Nat.le_of_ble_eq_true rfl, Nat.le_of_ble_eq_true rfl⟩ rfl rfl hN hK hP hD hS hA (3 + g) (bk_m (show g < 8 by omega)) rfl rfl hl.1 rfl (Nat.le_of_ble_eq_true rfl) dX0_allowsDeal_38 ⟨Nat.le_of_ble_eq_true rfl, Nat.le_of_ble_eq_true rfl⟩ (fun H locs hP hD hS => ?_)
        refine z_callV1 (rest := []) S (c_X0_canPay t (show t < 8 by omega) (valP (z (25 + 16 * g + k)) mn)) qm_X0_91 v_X0_canPay ⟨Nat.le_of_ble_eq_true rfl, Nat.le_of_ble_eq_true rfl⟩ rfl rfl hN hK hP hD hS hA (0) (bk_0) rfl rfl hl.1 rfl (Nat.le_of_ble_eq_true rfl) dX0_allowsDeal_41 ⟨Nat.le_of_ble_eq_true rfl, Nat.le_of_ble_eq_true rfl⟩ (fun H locs hP hD hS => ?_)
        exact z_zret hx hb hr hlocks hP hD hK hS (rfl) (by first | rfl | (simp only [bI, alwP, minP, maxP, c1, c2, c3, not_true_eq_false, not_false_eq_true, and_self, and_true, true_and, and_false, false_and, or_true, true_or, or_false, false_or, if_true, if_false, ite_true, ite_false]; done) | (simp [bI, alwP, minP, maxP, c1, c2, c3]; done) | (simp_all [bI, alwP, minP, maxP]; done)) (bI_nr _) dX0_allowsDeal_44
      · have c3 := bI_0 c3
        refine lv_iconst (v := 0) hx hb dX0_allowsDeal_25 (by decide) ?_
        exact z_zret hx hb hr hlocks hP hD hK hS (rfl) (by first | rfl | (simp only [bI, alwP, minP, maxP, c1, c2, c3, not_true_eq_false, not_false_eq_true, and_self, and_true, true_and, and_false, false_and, or_true, true_or, or_false, false_or, if_true, if_false, ite_true, ite_false]; done) | (simp [bI, alwP, minP, maxP, c1, c2, c3]; done) | (simp_all [bI, alwP, minP, maxP]; done)) rfl dX0_allowsDeal_26
set_option maxHeartbeats 4000000 in
set_option maxRecDepth 100000 in
theorem c_X0_payToCommon (j : Nat) (hj : j < 8) (mn b cm : Int32) (hb1 : z (14 + 16 * j + 1) = b) (hc1 : z 6 = cm) : zM l D (zT cI cC cM cB cJ) yX0_payToCommon cX0_payToCommon 3 none ({ frames := 0, cells := 0, slots := 0, locals := 0 } : Room) [.ref (ad 0), .int (nI j), .int mn] (bkW cI cM ad z wr) (bkW cI cM ad (upd (upd z (14 + 16 * j + 1) (b - mn)) 6 (cm + mn)) wr) none 0 0 := by
  refine z_enter (by decide) (Nat.le_of_ble_eq_true rfl) ?_
  intro p e s m below meth c A S hr hlocks hnm hN hA hK hP hD hS ls hl
  obtain ⟨hx, hb, hml, hown, hts⟩ := id S
  have hl : lv_has ls 3 [(0, .ref (ad 0)), (1, .int (nI j)), (2, .int mn)] := hl
  have hP : va_P D vwCl (bkW cI cM ad z wr) s.heap := hP
  have hD : va_D A (bkW cI cM ad z wr) := hD
  refine lv_aload_n hx hb dX0_payToCommon_0 rfl (lv_at hl 0 rfl) ?_
  refine va_get (v := .ref (ad 1)) hx hb hts inTX0 hown hK hP (0) (bk_0) rfl 0 (by decide) (hts _ qf_X0_11) (fun _ h9 => h9) (rfl) dX0_payToCommon_1 ?_
  refine lv_iload_n hx hb dX0_payToCommon_4 rfl (lv_at hl 1 rfl) ?_
  refine va_aldq hx hb hK hP (1) 2 (bk_1) rfl (vp_in_nI (show j < 8 by omega) (by omega)) dX0_payToCommon_5 ?_
  refine z_top (v2 := .ref (ad (3 + j))) (z_rf rfl) ?_
  refine lv_dup hx hb dX0_payToCommon_6 rfl ?_
  refine va_get (v := .int b) hx hb hts inTX4 hown hK hP (3 + j) (bk_m (show j < 8 by omega)) rfl 3 (by decide) (hts _ qf_X0_55) (fun _ h9 => h9) (congrArg (fun x => some (Value.int x)) (hb1)) dX0_payToCommon_7 ?_
  refine lv_iload_n hx hb dX0_payToCommon_10 rfl (lv_at hl 2 rfl) ?_
  refine lv_isub hx hb dX0_payToCommon_11  ?_
  refine z_put (v := .int (b - mn)) (ty := .int) (ws2 := bkW cI cM ad (upd z (14 + 16 * j + 1) (b - mn)) wr) hx hb hts inTX4 tyX4 tyX4_ok nmX4 hown hK hP hD hS (3 + j) (bk_m (show j < 8 by omega)) rfl 3 (by decide) (hts _ qf_X0_55) (fun _ h9 => h9) rfl (by decide +kernel) (rfl) (rfl) (Nat.le_of_ble_eq_true rfl) dX0_payToCommon_12 (bk_wm _ (show j < 8 by omega) (by omega) (mfs_s3 (show j < 8 by omega))) (fun H locs hP hD hS => ?_)
  refine lv_aload_n hx hb dX0_payToCommon_15 rfl (lv_at hl 0 rfl) ?_
  refine lv_dup hx hb dX0_payToCommon_16 rfl ?_
  refine va_get (v := .int cm) hx hb hts inTX0 hown hK hP (0) (bk_0) rfl 3 (by decide) (hts _ qf_X0_36) (fun _ h9 => h9) (congrArg (fun x => some (Value.int x)) ((upd_ne (by omega)).trans (hc1))) dX0_payToCommon_17 ?_
  refine lv_iload_n hx hb dX0_payToCommon_20 rfl (lv_at hl 2 rfl) ?_
  refine lv_iadd hx hb dX0_payToCommon_21  ?_
  refine z_put (v := .int (cm + mn)) (ty := .int) (ws2 := bkW cI cM ad (upd (upd z (14 + 16 * j + 1) (b - mn)) 6 (cm + mn)) wr) hx hb hts inTX0 tyX0 tyX0_ok nmX0 hown hK hP hD hS (0) (bk_0) rfl 3 (by decide) (hts _ qf_X0_36) (fun _ h9 => h9) rfl (by decide +kernel) (rfl) (rfl) (Nat.le_of_ble_eq_true rfl) dX0_payToCommon_22 (bk_w0 _ (by decide) (by decide) bfs_s3) (fun H locs hP hD hS => ?_)
  exact z_vret hx hb hr hlocks hP hD hK hS (rfl) (rfl) dX0_payToCommon_25
set_option maxHeartbeats 4000000 in
set_option maxRecDepth 100000 in
theorem c_X4_practise (j k : Nat) (hj : j < 8) (hk : k < 5) (mn q : Int32) (hq : z (25 + 16 * j + k) = q) : zM l D (zT cI cC cM cB cJ) yX4_practise cX4_practise 3 none ({ frames := 1, cells := 0, slots := 0, locals := 21 } : Room) [.ref (ad (3 + j)), .int (nI k), .int mn] (bkW cI cM ad z wr) (bkW cI cM ad (upd z (25 + 16 * j + k) (minP (q + mn) 9999)) wr) none 0 0 := by
  refine z_enter (by decide) (Nat.le_of_ble_eq_true rfl) ?_
  intro p e s m below meth c A S hr hlocks hnm hN hA hK hP hD hS ls hl
  obtain ⟨hx, hb, hml, hown, hts⟩ := id S
  have hl : lv_has ls 3 [(0, .ref (ad (3 + j))), (1, .int (nI k)), (2, .int mn)] := hl
  have hP : va_P D vwCl (bkW cI cM ad z wr) s.heap := hP
  have hD : va_D A (bkW cI cM ad z wr) := hD
  refine lv_aload_n hx hb dX4_practise_0 rfl (lv_at hl 0 rfl) ?_
  refine va_get (v := .ref (ad (11 + j))) hx hb hts inTX4 hown hK hP (3 + j) (bk_m (show j < 8 by omega)) rfl 0 (by decide) (hts _ qf_X4_9) (fun _ h9 => h9) (rfl) dX4_practise_1 ?_
  refine lv_iload_n hx hb dX4_practise_4 rfl (lv_at hl 1 rfl) ?_
  refine lv_aload_n hx hb dX4_practise_5 rfl (lv_at hl 0 rfl) ?_
  refine va_get (v := .ref (ad (11 + j))) hx hb hts inTX4 hown hK hP (3 + j) (bk_m (show j < 8 by omega)) rfl 0 (by decide) (hts _ qf_X4_9) (fun _ h9 => h9) (rfl) dX4_practise_6 ?_
  refine lv_iload_n hx hb dX4_practise_9 rfl (lv_at hl 1 rfl) ?_
  refine va_iald hx hb hK hP (11 + j) 0 (bk_p (show j < 8 by omega)) rfl (vp_in_nI (show k < 5 by omega) (by omega)) dX4_practise_10 ?_
  refine z_top (v2 := .int q) (congrArg Value.int ((pfn_at rfl (show k < 5 by omega)).trans (hq))) ?_
  refine lv_iload_n hx hb dX4_practise_11 rfl (lv_at hl 2 rfl) ?_
  refine lv_iadd hx hb dX4_practise_12  ?_
  refine lv_sipush (v := 9999) hx hb dX4_practise_13 (by decide) ?_
  refine va_mmin hx hb (hml.trans hl.1.symm) hown (hts _ qm_X4_53) (hts _ qt_Mmin) (hts _ qn_J9) (hts _ qc_Mmin) (Nat.le_of_ble_eq_true rfl) (Nat.le_of_ble_eq_true rfl) (Nat.le_of_ble_eq_true rfl) (Nat.le_of_ble_eq_true rfl) dX4_practise_16 ?_
  refine z_iast (ws2 := bkW cI cM ad (upd z (25 + 16 * j + k) (minP (q + mn) 9999)) wr) hx hb hK hP hD hS (11 + j) 0 (bk_p (show j < 8 by omega)) rfl (vp_in_nI (show k < 5 by omega) (by omega)) dX4_practise_19 (z_ixw rfl (by omega) (fun q_ => (bkW cI cM ad z wr).set (11 + j) (ad (11 + j), .inl (cI, 5, .inl (upd (pfn z j) q_ (minP (q + mn) 9999))))) (bk_wp (show j < 8 by omega) (show k < 5 by omega))) (fun H locs hP hD hS => ?_)
  exact z_vret hx hb hr hlocks hP hD hK hS (rfl) (rfl) dX4_practise_20
set_option maxHeartbeats 4000000 in
set_option maxRecDepth 100000 in
theorem c_X0_payLoanBack (j : Nat) (hj : j < 8) (v ln b cm : Int32) (hl1 : z (14 + 16 * j + 2) = ln) (hb1 : z (14 + 16 * j + 1) = b) (hc1 : z 6 = cm) : zM l D (zT cI cC cM cB cJ) yX0_payLoanBack cX0_payLoanBack 4 none ({ frames := 1, cells := 0, slots := 0, locals := 22 } : Room) [.ref (ad 0), .int (nI j), .int v] (bkW cI cM ad z wr) (bkW cI cM ad (upd (upd (upd z (14 + 16 * j + 2) (ln - (minP (v / 2) ln))) (14 + 16 * j + 1) (b - (minP (v / 2) ln))) 6 (cm + (minP (v / 2) ln))) wr) none 0 0 := by
  refine z_enter (by decide) (Nat.le_of_ble_eq_true rfl) ?_
  intro p e s m below meth c A S hr hlocks hnm hN hA hK hP hD hS ls hl
  obtain ⟨hx, hb, hml, hown, hts⟩ := id S
  have hl : lv_has ls 4 [(0, .ref (ad 0)), (1, .int (nI j)), (2, .int v)] := hl
  have hP : va_P D vwCl (bkW cI cM ad z wr) s.heap := hP
  have hD : va_D A (bkW cI cM ad z wr) := hD
  refine lv_iload_n hx hb dX0_payLoanBack_0 rfl (lv_at hl 2 rfl) ?_
  refine lv_iconst (v := 2) hx hb dX0_payLoanBack_1 (by decide) ?_
  refine lv_idiv hx hb dX0_payLoanBack_2 (by decide) ?_
  refine lv_aload_n hx hb dX0_payLoanBack_3 rfl (lv_at hl 0 rfl) ?_
  refine va_get (v := .ref (ad 1)) hx hb hts inTX0 hown hK hP (0) (bk_0) rfl 0 (by decide) (hts _ qf_X0_11) (fun _ h9 => h9) (rfl) dX0_payLoanBack_4 ?_
  refine lv_iload_n hx hb dX0_payLoanBack_7 rfl (lv_at hl 1 rfl) ?_
  refine va_aldq hx hb hK hP (1) 2 (bk_1) rfl (vp_in_nI (show j < 8 by omega) (by omega)) dX0_payLoanBack_8 ?_
  refine z_top (v2 := .ref (ad (3 + j))) (z_rf rfl) ?_
  refine va_get (v := .int ln) hx hb hts inTX4 hown hK hP (3 + j) (bk_m (show j < 8 by omega)) rfl 4 (by decide) (hts _ qf_X0_58) (fun _ h9 => h9) (congrArg (fun x => some (Value.int x)) (hl1)) dX0_payLoanBack_9 ?_
  refine va_mmin hx hb (hml.trans hl.1.symm) hown (hts _ qm_X0_115) (hts _ qt_Mmin) (hts _ qn_J9) (hts _ qc_Mmin) (Nat.le_of_ble_eq_true rfl) (Nat.le_of_ble_eq_true rfl) (Nat.le_of_ble_eq_true rfl) (Nat.le_of_ble_eq_true rfl) dX0_payLoanBack_12 ?_
  refine lv_istore_n (lv' := [(3, .int (minP (v / 2) ln)), (0, .ref (ad 0)), (1, .int (nI j)), (2, .int v)]) hx hb dX0_payLoanBack_15 rfl hl (by decide) rfl (fun ls hl => ?_)
  refine lv_aload_n hx hb dX0_payLoanBack_16 rfl (lv_at hl 1 rfl) ?_
  refine va_get (v := .ref (ad 1)) hx hb hts inTX0 hown hK hP (0) (bk_0) rfl 0 (by decide) (hts _ qf_X0_11) (fun _ h9 => h9) (rfl) dX0_payLoanBack_17 ?_
  refine lv_iload_n hx hb dX0_payLoanBack_20 rfl (lv_at hl 2 rfl) ?_
  refine va_aldq hx hb hK hP (1) 2 (bk_1) rfl (vp_in_nI (show j < 8 by omega) (by omega)) dX0_payLoanBack_21 ?_
  refine z_top (v2 := .ref (ad (3 + j))) (z_rf rfl) ?_
  refine lv_dup hx hb dX0_payLoanBack_22 rfl ?_
  refine va_get (v := .int ln) hx hb hts inTX4 hown hK hP (3 + j) (bk_m (show j < 8 by omega)) rfl 4 (by decide) (hts _ qf_X0_58) (fun _ h9 => h9) (congrArg (fun x => some (Value.int x)) (hl1)) dX0_payLoanBack_23 ?_
  refine lv_iload_n hx hb dX0_payLoanBack_26 rfl (lv_at hl 0 rfl) ?_
  refine lv_isub hx hb dX0_payLoanBack_27  ?_
  refine z_put (v := .int (ln - (minP (v / 2) ln))) (ty := .int) (ws2 := bkW cI cM ad (upd z (14 + 16 * j + 2) (ln - (minP (v / 2) ln))) wr) hx hb hts inTX4 tyX4 tyX4_ok nmX4 hown hK hP hD hS (3 + j) (bk_m (show j < 8 by omega)) rfl 4 (by decide) (hts _ qf_X0_58) (fun _ h9 => h9) rfl (by decide +kernel) (rfl) (rfl) (Nat.le_of_ble_eq_true rfl) dX0_payLoanBack_28 (bk_wm _ (show j < 8 by omega) (by omega) (mfs_s4 (show j < 8 by omega))) (fun H locs hP hD hS => ?_)
  refine lv_aload_n hx hb dX0_payLoanBack_31 rfl (lv_at hl 1 rfl) ?_
  refine lv_iload_n hx hb dX0_payLoanBack_32 rfl (lv_at hl 2 rfl) ?_
  refine lv_iload_n hx hb dX0_payLoanBack_33 rfl (lv_at hl 0 rfl) ?_
  refine z_callV0 (rest := []) S (c_X0_payToCommon j (show j < 8 by omega) (minP (v / 2) ln) b cm ((upd_ne (by omega)).trans (hb1)) ((upd_ne (by omega)).trans (hc1))) qm_X0_61 v_X0_payToCommon ⟨Nat.le_of_ble_eq_true rfl, Nat.le_of_ble_eq_true rfl⟩ rfl rfl hN hK hP hD hS hA (0) (bk_0) rfl rfl hl.1 rfl (Nat.le_of_ble_eq_true rfl) dX0_payLoanBack_34 ⟨Nat.le_of_ble_eq_true rfl, Nat.le_of_ble_eq_true rfl⟩ (fun H locs hP hD hS => ?_)
  exact z_vret hx hb hr hlocks hP hD hK hS (rfl) (rfl) dX0_payLoanBack_37
set_option maxHeartbeats 4000000 in
set_option maxRecDepth 100000 in
theorem c_X0_makeDeal (g t k : Nat) (hg : g < 8) (ht : t < 8) (hgt : g ≠ t) (hk : k < 5) (mn : Int32) : zM l D (zT cI cC cM cB cJ) yX0_makeDeal cX0_makeDeal 8 (some .int) ({ frames := 4, cells := 0, slots := 0, locals := 85 } : Room) [.ref (ad 0), .int (nI g), .int (nI t), .int (nI k), .int mn] (bkW cI cM ad z wr) (bkW cI cM ad (dealZ z g t k mn) wr) (some (.int (valP (z (25 + 16 * g + k)) mn))) 0 0 := by
  refine z_enter (by decide) (Nat.le_of_ble_eq_true rfl) ?_
  intro p e s m below meth c A S hr hlocks hnm hN hA hK hP hD hS ls hl
  obtain ⟨hx, hb, hml, hown, hts⟩ := id S
  have hl : lv_has ls 8 [(0, .ref (ad 0)), (1, .int (nI g)), (2, .int (nI t)), (3, .int (nI k)), (4, .int mn)] := hl
  have hP : va_P D vwCl (bkW cI cM ad z wr) s.heap := hP
  have hD : va_D A (bkW cI cM ad z wr) := hD
  refine lv_aload_n hx hb dX0_makeDeal_0 rfl (lv_at hl 0 rfl) ?_
  refine va_get (v := .ref (ad 1)) hx hb hts inTX0 hown hK hP (0) (bk_0) rfl 0 (by decide) (hts _ qf_X0_11) (fun _ h9 => h9) (rfl) dX0_makeDeal_1 ?_
  refine lv_iload_n hx hb dX0_makeDeal_4 rfl (lv_at hl 1 rfl) ?_
  refine va_aldq hx hb hK hP (1) 2 (bk_1) rfl (vp_in_nI (show g < 8 by omega) (by omega)) dX0_makeDeal_5 ?_
  refine z_top (v2 := .ref (ad (3 + g))) (z_rf rfl) ?_
  refine lv_astore (lv' := [(5, .ref (ad (3 + g))), (0, .ref (ad 0)), (1, .int (nI g)), (2, .int (nI t)), (3, .int (nI k)), (4, .int mn)]) hx hb dX0_makeDeal_6 hl (by decide) rfl (fun ls hl => ?_)
  refine lv_aload_n hx hb dX0_makeDeal_8 rfl (lv_at hl 1 rfl) ?_
  refine va_get (v := .ref (ad 1)) hx hb hts inTX0 hown hK hP (0) (bk_0) rfl 0 (by decide) (hts _ qf_X0_11) (fun _ h9 => h9) (rfl) dX0_makeDeal_9 ?_
  refine lv_iload_n hx hb dX0_makeDeal_12 rfl (lv_at hl 3 rfl) ?_
  refine va_aldq hx hb hK hP (1) 2 (bk_1) rfl (vp_in_nI (show t < 8 by omega) (by omega)) dX0_makeDeal_13 ?_
  refine z_top (v2 := .ref (ad (3 + t))) (z_rf rfl) ?_
  refine lv_astore (lv' := [(6, .ref (ad (3 + t))), (5, .ref (ad (3 + g))), (0, .ref (ad 0)), (1, .int (nI g)), (2, .int (nI t)), (3, .int (nI k)), (4, .int mn)]) hx hb dX0_makeDeal_14 hl (by decide) rfl (fun ls hl => ?_)
  refine lv_aload hx hb dX0_makeDeal_16 (lv_at hl 1 rfl) ?_
  refine lv_iload_n hx hb dX0_makeDeal_18 rfl (lv_at hl 5 rfl) ?_
  refine lv_iload hx hb dX0_makeDeal_19 (lv_at hl 6 rfl) ?_
  refine z_callV1 (rest := []) S (c_X4_dealValue g k (show g < 8 by omega) (show k < 5 by omega) mn) qm_X0_87 v_X4_dealValue ⟨Nat.le_of_ble_eq_true rfl, Nat.le_of_ble_eq_true rfl⟩ rfl rfl hN hK hP hD hS hA (3 + g) (bk_m (show g < 8 by omega)) rfl rfl hl.1 rfl (Nat.le_of_ble_eq_true rfl) dX0_makeDeal_21 ⟨Nat.le_of_ble_eq_true rfl, Nat.le_of_ble_eq_true rfl⟩ (fun H locs hP hD hS => ?_)
  refine lv_istore (lv' := [(7, .int (valP (z (25 + 16 * g + k)) mn)), (6, .ref (ad (3 + t))), (5, .ref (ad (3 + g))), (0, .ref (ad 0)), (1, .int (nI g)), (2, .int (nI t)), (3, .int (nI k)), (4, .int mn)]) hx hb dX0_makeDeal_24 hl (by decide) rfl (fun ls hl => ?_)
  refine lv_aload hx hb dX0_makeDeal_26 (lv_at hl 1 rfl) ?_
  refine lv_dup hx hb dX0_makeDeal_28 rfl ?_
  refine va_get (v := .int (z (14 + 16 * t + 1))) hx hb hts inTX4 hown hK hP (3 + t) (bk_m (show t < 8 by omega)) rfl 3 (by decide) (hts _ qf_X0_55) (fun _ h9 => h9) (rfl) dX0_makeDeal_29 ?_
  refine lv_iload hx hb dX0_makeDeal_32 (lv_at hl 0 rfl) ?_
  refine lv_isub hx hb dX0_makeDeal_34  ?_
  refine z_put (v := .int ((z (14 + 16 * t + 1)) - (valP (z (25 + 16 * g + k)) mn))) (ty := .int) (ws2 := bkW cI cM ad (upd z (14 + 16 * t + 1) ((z (14 + 16 * t + 1)) - (valP (z (25 + 16 * g + k)) mn))) wr) hx hb hts inTX4 tyX4 tyX4_ok nmX4 hown hK hP hD hS (3 + t) (bk_m (show t < 8 by omega)) rfl 3 (by decide) (hts _ qf_X0_55) (fun _ h9 => h9) rfl (by decide +kernel) (rfl) (rfl) (Nat.le_of_ble_eq_true rfl) dX0_makeDeal_35 (bk_wm _ (show t < 8 by omega) (by omega) (mfs_s3 (show t < 8 by omega))) (fun H locs hP hD hS => ?_)
  refine lv_aload hx hb dX0_makeDeal_38 (lv_at hl 1 rfl) ?_
  refine lv_dup hx hb dX0_makeDeal_40 rfl ?_
  refine va_get (v := .int (z (14 + 16 * t + 8))) hx hb hts inTX4 hown hK hP (3 + t) (bk_m (show t < 8 by omega)) rfl 9 (by decide) (hts _ qf_X0_94) (fun _ h9 => h9) (congrArg (fun x => some (Value.int x)) ((upd_ne (by omega)).trans (rfl))) dX0_makeDeal_41 ?_
  refine lv_iload hx hb dX0_makeDeal_44 (lv_at hl 0 rfl) ?_
  refine lv_iadd hx hb dX0_makeDeal_46  ?_
  refine z_put (v := .int ((z (14 + 16 * t + 8)) + (valP (z (25 + 16 * g + k)) mn))) (ty := .int) (ws2 := bkW cI cM ad (upd (upd z (14 + 16 * t + 1) ((z (14 + 16 * t + 1)) - (valP (z (25 + 16 * g + k)) mn))) (14 + 16 * t + 8) ((z (14 + 16 * t + 8)) + (valP (z (25 + 16 * g + k)) mn))) wr) hx hb hts inTX4 tyX4 tyX4_ok nmX4 hown hK hP hD hS (3 + t) (bk_m (show t < 8 by omega)) rfl 9 (by decide) (hts _ qf_X0_94) (fun _ h9 => h9) rfl (by decide +kernel) (rfl) (rfl) (Nat.le_of_ble_eq_true rfl) dX0_makeDeal_47 (bk_wm _ (show t < 8 by omega) (by omega) (mfs_s9 (show t < 8 by omega))) (fun H locs hP hD hS => ?_)
  refine lv_aload hx hb dX0_makeDeal_50 (lv_at hl 1 rfl) ?_
  refine lv_dup hx hb dX0_makeDeal_52 rfl ?_
  refine va_get (v := .int (z (14 + 16 * t + 6))) hx hb hts inTX4 hown hK hP (3 + t) (bk_m (show t < 8 by omega)) rfl 7 (by decide) (hts _ qf_X0_97) (fun _ h9 => h9) (congrArg (fun x => some (Value.int x)) ((upd_ne (by omega)).trans ((upd_ne (by omega)).trans (rfl)))) dX0_makeDeal_53 ?_
  refine lv_iload hx hb dX0_makeDeal_56 (lv_at hl 7 rfl) ?_
  refine lv_iadd hx hb dX0_makeDeal_58  ?_
  refine z_put (v := .int ((z (14 + 16 * t + 6)) + mn)) (ty := .int) (ws2 := bkW cI cM ad (upd (upd (upd z (14 + 16 * t + 1) ((z (14 + 16 * t + 1)) - (valP (z (25 + 16 * g + k)) mn))) (14 + 16 * t + 8) ((z (14 + 16 * t + 8)) + (valP (z (25 + 16 * g + k)) mn))) (14 + 16 * t + 6) ((z (14 + 16 * t + 6)) + mn)) wr) hx hb hts inTX4 tyX4 tyX4_ok nmX4 hown hK hP hD hS (3 + t) (bk_m (show t < 8 by omega)) rfl 7 (by decide) (hts _ qf_X0_97) (fun _ h9 => h9) rfl (by decide +kernel) (rfl) (rfl) (Nat.le_of_ble_eq_true rfl) dX0_makeDeal_59 (bk_wm _ (show t < 8 by omega) (by omega) (mfs_s7 (show t < 8 by omega))) (fun H locs hP hD hS => ?_)
  refine lv_aload hx hb dX0_makeDeal_62 (lv_at hl 1 rfl) ?_
  refine lv_iconst (v := 1) hx hb dX0_makeDeal_64 (by decide) ?_
  refine z_put (v := .int 1) (ty := .boolean) (ws2 := bkW cI cM ad (upd (upd (upd (upd z (14 + 16 * t + 1) ((z (14 + 16 * t + 1)) - (valP (z (25 + 16 * g + k)) mn))) (14 + 16 * t + 8) ((z (14 + 16 * t + 8)) + (valP (z (25 + 16 * g + k)) mn))) (14 + 16 * t + 6) ((z (14 + 16 * t + 6)) + mn)) (14 + 16 * t + 4) 1) wr) hx hb hts inTX4 tyX4 tyX4_ok nmX4 hown hK hP hD hS (3 + t) (bk_m (show t < 8 by omega)) rfl 2 (by decide) (hts _ qf_X0_100) (fun _ h9 => h9) rfl (by decide +kernel) (rfl) (rfl) (Nat.le_of_ble_eq_true rfl) dX0_makeDeal_65 (bk_wm _ (show t < 8 by omega) (by omega) (mfs_s2 (show t < 8 by omega))) (fun H locs hP hD hS => ?_)
  refine lv_aload hx hb dX0_makeDeal_68 (lv_at hl 2 rfl) ?_
  refine lv_dup hx hb dX0_makeDeal_70 rfl ?_
  refine va_get (v := .int (z (14 + 16 * g + 1))) hx hb hts inTX4 hown hK hP (3 + g) (bk_m (show g < 8 by omega)) rfl 3 (by decide) (hts _ qf_X0_55) (fun _ h9 => h9) (congrArg (fun x => some (Value.int x)) ((upd_ne (by omega)).trans ((upd_ne (by omega)).trans ((upd_ne (by omega)).trans ((upd_ne (by omega)).trans (rfl)))))) dX0_makeDeal_71 ?_
  refine lv_iload hx hb dX0_makeDeal_74 (lv_at hl 0 rfl) ?_
  refine lv_iadd hx hb dX0_makeDeal_76  ?_
  refine z_put (v := .int ((z (14 + 16 * g + 1)) + (valP (z (25 + 16 * g + k)) mn))) (ty := .int) (ws2 := bkW cI cM ad (upd (upd (upd (upd (upd z (14 + 16 * t + 1) ((z (14 + 16 * t + 1)) - (valP (z (25 + 16 * g + k)) mn))) (14 + 16 * t + 8) ((z (14 + 16 * t + 8)) + (valP (z (25 + 16 * g + k)) mn))) (14 + 16 * t + 6) ((z (14 + 16 * t + 6)) + mn)) (14 + 16 * t + 4) 1) (14 + 16 * g + 1) ((z (14 + 16 * g + 1)) + (valP (z (25 + 16 * g + k)) mn))) wr) hx hb hts inTX4 tyX4 tyX4_ok nmX4 hown hK hP hD hS (3 + g) (bk_m (show g < 8 by omega)) rfl 3 (by decide) (hts _ qf_X0_55) (fun _ h9 => h9) rfl (by decide +kernel) (rfl) (rfl) (Nat.le_of_ble_eq_true rfl) dX0_makeDeal_77 (bk_wm _ (show g < 8 by omega) (by omega) (mfs_s3 (show g < 8 by omega))) (fun H locs hP hD hS => ?_)
  refine lv_aload hx hb dX0_makeDeal_80 (lv_at hl 2 rfl) ?_
  refine lv_dup hx hb dX0_makeDeal_82 rfl ?_
  refine va_get (v := .int (z (14 + 16 * g + 7))) hx hb hts inTX4 hown hK hP (3 + g) (bk_m (show g < 8 by omega)) rfl 8 (by decide) (hts _ qf_X0_103) (fun _ h9 => h9) (congrArg (fun x => some (Value.int x)) ((upd_ne (by omega)).trans ((upd_ne (by omega)).trans ((upd_ne (by omega)).trans ((upd_ne (by omega)).trans ((upd_ne (by omega)).trans (rfl))))))) dX0_makeDeal_83 ?_
  refine lv_iload hx hb dX0_makeDeal_86 (lv_at hl 0 rfl) ?_
  refine lv_iadd hx hb dX0_makeDeal_88  ?_
  refine z_put (v := .int ((z (14 + 16 * g + 7)) + (valP (z (25 + 16 * g + k)) mn))) (ty := .int) (ws2 := bkW cI cM ad (upd (upd (upd (upd (upd (upd z (14 + 16 * t + 1) ((z (14 + 16 * t + 1)) - (valP (z (25 + 16 * g + k)) mn))) (14 + 16 * t + 8) ((z (14 + 16 * t + 8)) + (valP (z (25 + 16 * g + k)) mn))) (14 + 16 * t + 6) ((z (14 + 16 * t + 6)) + mn)) (14 + 16 * t + 4) 1) (14 + 16 * g + 1) ((z (14 + 16 * g + 1)) + (valP (z (25 + 16 * g + k)) mn))) (14 + 16 * g + 7) ((z (14 + 16 * g + 7)) + (valP (z (25 + 16 * g + k)) mn))) wr) hx hb hts inTX4 tyX4 tyX4_ok nmX4 hown hK hP hD hS (3 + g) (bk_m (show g < 8 by omega)) rfl 8 (by decide) (hts _ qf_X0_103) (fun _ h9 => h9) rfl (by decide +kernel) (rfl) (rfl) (Nat.le_of_ble_eq_true rfl) dX0_makeDeal_89 (bk_wm _ (show g < 8 by omega) (by omega) (mfs_s8 (show g < 8 by omega))) (fun H locs hP hD hS => ?_)
  refine lv_aload hx hb dX0_makeDeal_92 (lv_at hl 2 rfl) ?_
  refine lv_dup hx hb dX0_makeDeal_94 rfl ?_
  refine va_get (v := .int (z (14 + 16 * g + 5))) hx hb hts inTX4 hown hK hP (3 + g) (bk_m (show g < 8 by omega)) rfl 6 (by decide) (hts _ qf_X0_106) (fun _ h9 => h9) (congrArg (fun x => some (Value.int x)) ((upd_ne (by omega)).trans ((upd_ne (by omega)).trans ((upd_ne (by omega)).trans ((upd_ne (by omega)).trans ((upd_ne (by omega)).trans ((upd_ne (by omega)).trans (rfl)))))))) dX0_makeDeal_95 ?_
  refine lv_iload hx hb dX0_makeDeal_98 (lv_at hl 7 rfl) ?_
  refine lv_iadd hx hb dX0_makeDeal_100  ?_
  refine z_put (v := .int ((z (14 + 16 * g + 5)) + mn)) (ty := .int) (ws2 := bkW cI cM ad (upd (upd (upd (upd (upd (upd (upd z (14 + 16 * t + 1) ((z (14 + 16 * t + 1)) - (valP (z (25 + 16 * g + k)) mn))) (14 + 16 * t + 8) ((z (14 + 16 * t + 8)) + (valP (z (25 + 16 * g + k)) mn))) (14 + 16 * t + 6) ((z (14 + 16 * t + 6)) + mn)) (14 + 16 * t + 4) 1) (14 + 16 * g + 1) ((z (14 + 16 * g + 1)) + (valP (z (25 + 16 * g + k)) mn))) (14 + 16 * g + 7) ((z (14 + 16 * g + 7)) + (valP (z (25 + 16 * g + k)) mn))) (14 + 16 * g + 5) ((z (14 + 16 * g + 5)) + mn)) wr) hx hb hts inTX4 tyX4 tyX4_ok nmX4 hown hK hP hD hS (3 + g) (bk_m (show g < 8 by omega)) rfl 6 (by decide) (hts _ qf_X0_106) (fun _ h9 => h9) rfl (by decide +kernel) (rfl) (rfl) (Nat.le_of_ble_eq_true rfl) dX0_makeDeal_101 (bk_wm _ (show g < 8 by omega) (by omega) (mfs_s6 (show g < 8 by omega))) (fun H locs hP hD hS => ?_)
  refine lv_aload hx hb dX0_makeDeal_104 (lv_at hl 2 rfl) ?_
  refine lv_iconst (v := 1) hx hb dX0_makeDeal_106 (by decide) ?_
  refine z_put (v := .int 1) (ty := .boolean) (ws2 := bkW cI cM ad (upd (upd (upd (upd (upd (upd (upd (upd z (14 + 16 * t + 1) ((z (14 + 16 * t + 1)) - (valP (z (25 + 16 * g + k)) mn))) (14 + 16 * t + 8) ((z (14 + 16 * t + 8)) + (valP (z (25 + 16 * g + k)) mn))) (14 + 16 * t + 6) ((z (14 + 16 * t + 6)) + mn)) (14 + 16 * t + 4) 1) (14 + 16 * g + 1) ((z (14 + 16 * g + 1)) + (valP (z (25 + 16 * g + k)) mn))) (14 + 16 * g + 7) ((z (14 + 16 * g + 7)) + (valP (z (25 + 16 * g + k)) mn))) (14 + 16 * g + 5) ((z (14 + 16 * g + 5)) + mn)) (14 + 16 * g + 4) 1) wr) hx hb hts inTX4 tyX4 tyX4_ok nmX4 hown hK hP hD hS (3 + g) (bk_m (show g < 8 by omega)) rfl 2 (by decide) (hts _ qf_X0_100) (fun _ h9 => h9) rfl (by decide +kernel) (rfl) (rfl) (Nat.le_of_ble_eq_true rfl) dX0_makeDeal_107 (bk_wm _ (show g < 8 by omega) (by omega) (mfs_s2 (show g < 8 by omega))) (fun H locs hP hD hS => ?_)
  refine lv_aload hx hb dX0_makeDeal_110 (lv_at hl 2 rfl) ?_
  refine lv_iload_n hx hb dX0_makeDeal_112 rfl (lv_at hl 6 rfl) ?_
  refine lv_iload hx hb dX0_makeDeal_113 (lv_at hl 7 rfl) ?_
  refine z_callV0 (rest := []) S (c_X4_practise g k (show g < 8 by omega) (show k < 5 by omega) mn (z (25 + 16 * g + k)) ((upd_ne (by omega)).trans ((upd_ne (by omega)).trans ((upd_ne (by omega)).trans ((upd_ne (by omega)).trans ((upd_ne (by omega)).trans ((upd_ne (by omega)).trans ((upd_ne (by omega)).trans ((upd_ne (by omega)).trans (rfl)))))))))) qm_X0_109 v_X4_practise ⟨Nat.le_of_ble_eq_true rfl, Nat.le_of_ble_eq_true rfl⟩ rfl rfl hN hK hP hD hS hA (3 + g) (bk_m (show g < 8 by omega)) rfl rfl hl.1 rfl (Nat.le_of_ble_eq_true rfl) dX0_makeDeal_115 ⟨Nat.le_of_ble_eq_true rfl, Nat.le_of_ble_eq_true rfl⟩ (fun H locs hP hD hS => ?_)
  refine lv_aload_n hx hb dX0_makeDeal_118 rfl (lv_at hl 3 rfl) ?_
  refine lv_iload_n hx hb dX0_makeDeal_119 rfl (lv_at hl 4 rfl) ?_
  refine lv_iload hx hb dX0_makeDeal_120 (lv_at hl 0 rfl) ?_
  refine z_callV0 (rest := []) S (c_X0_payLoanBack g (show g < 8 by omega) (valP (z (25 + 16 * g + k)) mn) (z (14 + 16 * g + 2)) ((z (14 + 16 * g + 1)) + (valP (z (25 + 16 * g + k)) mn)) (z 6) ((upd_ne (by omega)).trans ((upd_ne (by omega)).trans ((upd_ne (by omega)).trans ((upd_ne (by omega)).trans ((upd_ne (by omega)).trans ((upd_ne (by omega)).trans ((upd_ne (by omega)).trans ((upd_ne (by omega)).trans ((upd_ne (by omega)).trans (rfl)))))))))) ((upd_ne (by omega)).trans ((upd_ne (by omega)).trans ((upd_ne (by omega)).trans ((upd_ne (by omega)).trans (upd_eq rfl))))) ((upd_ne (by omega)).trans ((upd_ne (by omega)).trans ((upd_ne (by omega)).trans ((upd_ne (by omega)).trans ((upd_ne (by omega)).trans ((upd_ne (by omega)).trans ((upd_ne (by omega)).trans ((upd_ne (by omega)).trans ((upd_ne (by omega)).trans (rfl))))))))))) qm_X0_112 v_X0_payLoanBack ⟨Nat.le_of_ble_eq_true rfl, Nat.le_of_ble_eq_true rfl⟩ rfl rfl hN hK hP hD hS hA (0) (bk_0) rfl rfl hl.1 rfl (Nat.le_of_ble_eq_true rfl) dX0_makeDeal_122 ⟨Nat.le_of_ble_eq_true rfl, Nat.le_of_ble_eq_true rfl⟩ (fun H locs hP hD hS => ?_)
  refine lv_aload_n hx hb dX0_makeDeal_125 rfl (lv_at hl 3 rfl) ?_
  refine lv_dup hx hb dX0_makeDeal_126 rfl ?_
  refine va_get (v := .int (z 9)) hx hb hts inTX0 hown hK hP (0) (bk_0) rfl 6 (by decide) (hts _ qf_X0_45) (fun _ h9 => h9) (congrArg (fun x => some (Value.int x)) ((upd_ne (by omega)).trans ((upd_ne (by omega)).trans ((upd_ne (by omega)).trans ((upd_ne (by omega)).trans ((upd_ne (by omega)).trans ((upd_ne (by omega)).trans ((upd_ne (by omega)).trans ((upd_ne (by omega)).trans ((upd_ne (by omega)).trans ((upd_ne (by omega)).trans ((upd_ne (by omega)).trans ((upd_ne (by omega)).trans (rfl)))))))))))))) dX0_makeDeal_127 ?_
  refine lv_iconst (v := 1) hx hb dX0_makeDeal_130 (by decide) ?_
  refine lv_iadd hx hb dX0_makeDeal_131  ?_
  refine z_put (v := .int ((z 9) + 1)) (ty := .int) (ws2 := bkW cI cM ad (upd (upd (upd (upd (upd (upd (upd (upd (upd (upd (upd (upd (upd z (14 + 16 * t + 1) ((z (14 + 16 * t + 1)) - (valP (z (25 + 16 * g + k)) mn))) (14 + 16 * t + 8) ((z (14 + 16 * t + 8)) + (valP (z (25 + 16 * g + k)) mn))) (14 + 16 * t + 6) ((z (14 + 16 * t + 6)) + mn)) (14 + 16 * t + 4) 1) (14 + 16 * g + 1) ((z (14 + 16 * g + 1)) + (valP (z (25 + 16 * g + k)) mn))) (14 + 16 * g + 7) ((z (14 + 16 * g + 7)) + (valP (z (25 + 16 * g + k)) mn))) (14 + 16 * g + 5) ((z (14 + 16 * g + 5)) + mn)) (14 + 16 * g + 4) 1) (25 + 16 * g + k) (minP (z (25 + 16 * g + k) + mn) 9999)) (14 + 16 * g + 2) ((z (14 + 16 * g + 2)) - (minP ((valP (z (25 + 16 * g + k)) mn) / 2) (z (14 + 16 * g + 2))))) (14 + 16 * g + 1) (((z (14 + 16 * g + 1)) + (valP (z (25 + 16 * g + k)) mn)) - (minP ((valP (z (25 + 16 * g + k)) mn) / 2) (z (14 + 16 * g + 2))))) 6 ((z 6) + (minP ((valP (z (25 + 16 * g + k)) mn) / 2) (z (14 + 16 * g + 2))))) 9 ((z 9) + 1)) wr) hx hb hts inTX0 tyX0 tyX0_ok nmX0 hown hK hP hD hS (0) (bk_0) rfl 6 (by decide) (hts _ qf_X0_45) (fun _ h9 => h9) rfl (by decide +kernel) (rfl) (rfl) (Nat.le_of_ble_eq_true rfl) dX0_makeDeal_132 (bk_w0 _ (by decide) (by decide) bfs_s6) (fun H locs hP hD hS => ?_)
  refine lv_iload hx hb dX0_makeDeal_135 (lv_at hl 0 rfl) ?_
  exact z_iret hx hb hr hlocks hP hD hK hS (by first | rfl | (simp only [minP, maxP, not_true_eq_false, not_false_eq_true, and_self, and_true, true_and, and_false, false_and, or_true, true_or, or_false, false_or, if_true, if_false, ite_true, ite_false]; done) | (simp [minP, maxP]; done) | (simp_all [minP, maxP]; done)) (by first | rfl | (simp only [minP, maxP, not_true_eq_false, not_false_eq_true, and_self, and_true, true_and, and_false, false_and, or_true, true_or, or_false, false_or, if_true, if_false, ite_true, ite_false]; done) | (simp [minP, maxP]; done) | (simp_all [minP, maxP]; done)) dX0_makeDeal_137
set_option maxHeartbeats 4000000 in
set_option maxRecDepth 100000 in
theorem c_X0_isCheaper (i b k : Nat) (hi : i < 8) (hb8 : b < 8) (hk : k < 5) (mn : Int32) : zM l D (zT cI cC cM cB cJ) yX0_isCheaper cX0_isCheaper 7 (some .boolean) ({ frames := 4, cells := 0, slots := 0, locals := 85 } : Room) [.ref (ad 0), .int (nI i), .int (nI b), .int (nI k), .int mn] (bkW cI cM ad z wr) (bkW cI cM ad z wr) (some (.int (bI (chpP z i b k mn)))) 0 0 := by
  refine z_enter (by decide) (Nat.le_of_ble_eq_true rfl) ?_
  intro p e s m below meth c A S hr hlocks hnm hN hA hK hP hD hS ls hl
  obtain ⟨hx, hb, hml, hown, hts⟩ := id S
  have hl : lv_has ls 7 [(0, .ref (ad 0)), (1, .int (nI i)), (2, .int (nI b)), (3, .int (nI k)), (4, .int mn)] := hl
  have hP : va_P D vwCl (bkW cI cM ad z wr) s.heap := hP
  have hD : va_D A (bkW cI cM ad z wr) := hD
  refine lv_aload_n hx hb dX0_isCheaper_0 rfl (lv_at hl 0 rfl) ?_
  refine va_get (v := .ref (ad 1)) hx hb hts inTX0 hown hK hP (0) (bk_0) rfl 0 (by decide) (hts _ qf_X0_11) (fun _ h9 => h9) (rfl) dX0_isCheaper_1 ?_
  refine lv_iload_n hx hb dX0_isCheaper_4 rfl (lv_at hl 1 rfl) ?_
  refine va_aldq hx hb hK hP (1) 2 (bk_1) rfl (vp_in_nI (show i < 8 by omega) (by omega)) dX0_isCheaper_5 ?_
  refine z_top (v2 := .ref (ad (3 + i))) (z_rf rfl) ?_
  refine lv_iload_n hx hb dX0_isCheaper_6 rfl (lv_at hl 3 rfl) ?_
  refine lv_iload hx hb dX0_isCheaper_7 (lv_at hl 4 rfl) ?_
  refine z_callV1 (rest := []) S (c_X4_dealValue i k (show i < 8 by omega) (show k < 5 by omega) mn) qm_X0_87 v_X4_dealValue ⟨Nat.le_of_ble_eq_true rfl, Nat.le_of_ble_eq_true rfl⟩ rfl rfl hN hK hP hD hS hA (3 + i) (bk_m (show i < 8 by omega)) rfl rfl hl.1 rfl (Nat.le_of_ble_eq_true rfl) dX0_isCheaper_9 ⟨Nat.le_of_ble_eq_true rfl, Nat.le_of_ble_eq_true rfl⟩ (fun H locs hP hD hS => ?_)
  refine lv_istore (lv' := [(5, .int (valP (z (25 + 16 * i + k)) mn)), (0, .ref (ad 0)), (1, .int (nI i)), (2, .int (nI b)), (3, .int (nI k)), (4, .int mn)]) hx hb dX0_isCheaper_12 hl (by decide) rfl (fun ls hl => ?_)
  refine lv_aload_n hx hb dX0_isCheaper_14 rfl (lv_at hl 1 rfl) ?_
  refine va_get (v := .ref (ad 1)) hx hb hts inTX0 hown hK hP (0) (bk_0) rfl 0 (by decide) (hts _ qf_X0_11) (fun _ h9 => h9) (rfl) dX0_isCheaper_15 ?_
  refine lv_iload_n hx hb dX0_isCheaper_18 rfl (lv_at hl 3 rfl) ?_
  refine va_aldq hx hb hK hP (1) 2 (bk_1) rfl (vp_in_nI (show b < 8 by omega) (by omega)) dX0_isCheaper_19 ?_
  refine z_top (v2 := .ref (ad (3 + b))) (z_rf rfl) ?_
  refine lv_iload_n hx hb dX0_isCheaper_20 rfl (lv_at hl 4 rfl) ?_
  refine lv_iload hx hb dX0_isCheaper_21 (lv_at hl 5 rfl) ?_
  refine z_callV1 (rest := []) S (c_X4_dealValue b k (show b < 8 by omega) (show k < 5 by omega) mn) qm_X0_87 v_X4_dealValue ⟨Nat.le_of_ble_eq_true rfl, Nat.le_of_ble_eq_true rfl⟩ rfl rfl hN hK hP hD hS hA (3 + b) (bk_m (show b < 8 by omega)) rfl rfl hl.1 rfl (Nat.le_of_ble_eq_true rfl) dX0_isCheaper_23 ⟨Nat.le_of_ble_eq_true rfl, Nat.le_of_ble_eq_true rfl⟩ (fun H locs hP hD hS => ?_)
  refine lv_istore (lv' := [(6, .int (valP (z (25 + 16 * b + k)) mn)), (5, .int (valP (z (25 + 16 * i + k)) mn)), (0, .ref (ad 0)), (1, .int (nI i)), (2, .int (nI b)), (3, .int (nI k)), (4, .int mn)]) hx hb dX0_isCheaper_26 hl (by decide) rfl (fun ls hl => ?_)
  refine lv_iload hx hb dX0_isCheaper_28 (lv_at hl 1 rfl) ?_
  refine lv_iload hx hb dX0_isCheaper_30 (lv_at hl 0 rfl) ?_
  refine lv_icmp_lt (tgt := 63) hx hb dX0_isCheaper_32 (by decide) (fun c1 => ?_) (fun c1 => ?_)
  · skip
    refine lv_iconst (v := 1) hx hb dX0_isCheaper_63 (by decide) ?_
    refine lv_goto (tgt := 68) hx hb dX0_isCheaper_64 (by decide) ?_
    exact z_zret hx hb hr hlocks hP hD hK hS (rfl) (by first | rfl | (simp only [bI, chpP, minP, maxP, c1, not_true_eq_false, not_false_eq_true, and_self, and_true, true_and, and_false, false_and, or_true, true_or, or_false, false_or, if_true, if_false, ite_true, ite_false]; done) | (simp [bI, chpP, minP, maxP, c1]; done) | (simp_all [bI, chpP, minP, maxP]; done)) rfl dX0_isCheaper_68
  · skip
    refine lv_iload hx hb dX0_isCheaper_35 (lv_at hl 1 rfl) ?_
    refine lv_iload hx hb dX0_isCheaper_37 (lv_at hl 0 rfl) ?_
    refine lv_icmp_ne (tgt := 67) hx hb dX0_isCheaper_39 (by decide) (fun c2 => ?_) (fun c2 => ?_)
    · skip
      refine lv_iconst (v := 0) hx hb dX0_isCheaper_67 (by decide) ?_
      exact z_zret hx hb hr hlocks hP hD hK hS (rfl) (by first | rfl | (simp only [bI, chpP, minP, maxP, c1, c2, not_true_eq_false, not_false_eq_true, and_self, and_true, true_and, and_false, false_and, or_true, true_or, or_false, false_or, if_true, if_false, ite_true, ite_false]; done) | (simp [bI, chpP, minP, maxP, c1, c2]; done) | (simp_all [bI, chpP, minP, maxP]; done)) rfl dX0_isCheaper_68
    · skip
      refine lv_aload_n hx hb dX0_isCheaper_42 rfl (lv_at hl 2 rfl) ?_
      refine va_get (v := .ref (ad 1)) hx hb hts inTX0 hown hK hP (0) (bk_0) rfl 0 (by decide) (hts _ qf_X0_11) (fun _ h9 => h9) (rfl) dX0_isCheaper_43 ?_
      refine lv_iload_n hx hb dX0_isCheaper_46 rfl (lv_at hl 3 rfl) ?_
      refine va_aldq hx hb hK hP (1) 2 (bk_1) rfl (vp_in_nI (show i < 8 by omega) (by omega)) dX0_isCheaper_47 ?_
      refine z_top (v2 := .ref (ad (3 + i))) (z_rf rfl) ?_
      refine va_get (v := .int (z (14 + 16 * i + 1))) hx hb hts inTX4 hown hK hP (3 + i) (bk_m (show i < 8 by omega)) rfl 3 (by decide) (hts _ qf_X0_55) (fun _ h9 => h9) (rfl) dX0_isCheaper_48 ?_
      refine lv_aload_n hx hb dX0_isCheaper_51 rfl (lv_at hl 2 rfl) ?_
      refine va_get (v := .ref (ad 1)) hx hb hts inTX0 hown hK hP (0) (bk_0) rfl 0 (by decide) (hts _ qf_X0_11) (fun _ h9 => h9) (rfl) dX0_isCheaper_52 ?_
      refine lv_iload_n hx hb dX0_isCheaper_55 rfl (lv_at hl 4 rfl) ?_
      refine va_aldq hx hb hK hP (1) 2 (bk_1) rfl (vp_in_nI (show b < 8 by omega) (by omega)) dX0_isCheaper_56 ?_
      refine z_top (v2 := .ref (ad (3 + b))) (z_rf rfl) ?_
      refine va_get (v := .int (z (14 + 16 * b + 1))) hx hb hts inTX4 hown hK hP (3 + b) (bk_m (show b < 8 by omega)) rfl 3 (by decide) (hts _ qf_X0_55) (fun _ h9 => h9) (rfl) dX0_isCheaper_57 ?_
      refine lv_icmp_ge (tgt := 67) hx hb dX0_isCheaper_60 (by decide) (fun c3 => ?_) (fun c3 => ?_)
      · have c3 := z_nlt c3
        refine lv_iconst (v := 0) hx hb dX0_isCheaper_67 (by decide) ?_
        exact z_zret hx hb hr hlocks hP hD hK hS (rfl) (by first | rfl | (simp only [bI, chpP, minP, maxP, c1, c2, c3, not_true_eq_false, not_false_eq_true, and_self, and_true, true_and, and_false, false_and, or_true, true_or, or_false, false_or, if_true, if_false, ite_true, ite_false]; done) | (simp [bI, chpP, minP, maxP, c1, c2, c3]; done) | (simp_all [bI, chpP, minP, maxP]; done)) rfl dX0_isCheaper_68
      · have c3 := z_lt c3
        refine lv_iconst (v := 1) hx hb dX0_isCheaper_63 (by decide) ?_
        refine lv_goto (tgt := 68) hx hb dX0_isCheaper_64 (by decide) ?_
        exact z_zret hx hb hr hlocks hP hD hK hS (rfl) (by first | rfl | (simp only [bI, chpP, minP, maxP, c1, c2, c3, not_true_eq_false, not_false_eq_true, and_self, and_true, true_and, and_false, false_and, or_true, true_or, or_false, false_or, if_true, if_false, ite_true, ite_false]; done) | (simp [bI, chpP, minP, maxP, c1, c2, c3]; done) | (simp_all [bI, chpP, minP, maxP]; done)) rfl dX0_isCheaper_68
set_option maxHeartbeats 4000000 in
set_option maxRecDepth 100000 in
theorem c_X0_hasMotion  : zM l D (zT cI cC cM cB cJ) yX0_hasMotion cX0_hasMotion 1 (some .boolean) ({ frames := 0, cells := 0, slots := 0, locals := 0 } : Room) [.ref (ad 0)] (bkW cI cM ad z wr) (bkW cI cM ad z wr) (some (.int (bI (¬ (z 10 = -1))))) 0 0 := by
  refine z_enter (by decide) (Nat.le_of_ble_eq_true rfl) ?_
  intro p e s m below meth c A S hr hlocks hnm hN hA hK hP hD hS ls hl
  obtain ⟨hx, hb, hml, hown, hts⟩ := id S
  have hl : lv_has ls 1 [(0, .ref (ad 0))] := hl
  have hP : va_P D vwCl (bkW cI cM ad z wr) s.heap := hP
  have hD : va_D A (bkW cI cM ad z wr) := hD
  refine lv_aload_n hx hb dX0_hasMotion_0 rfl (lv_at hl 0 rfl) ?_
  refine va_get (v := .int (z 10)) hx hb hts inTX0 hown hK hP (0) (bk_0) rfl 7 (by decide) (hts _ qf_X0_25) (fun _ h9 => h9) (rfl) dX0_hasMotion_1 ?_
  refine lv_iconst (v := (-1)) hx hb dX0_hasMotion_4 (by decide) ?_
  refine lv_icmp_eq (tgt := 12) hx hb dX0_hasMotion_5 (by decide) (fun c1 => ?_) (fun c1 => ?_)
  · skip
    refine lv_iconst (v := 0) hx hb dX0_hasMotion_12 (by decide) ?_
    exact z_zret hx hb hr hlocks hP hD hK hS (rfl) (by first | rfl | (simp only [bI, minP, maxP, c1, not_true_eq_false, not_false_eq_true, and_self, and_true, true_and, and_false, false_and, or_true, true_or, or_false, false_or, if_true, if_false, ite_true, ite_false]; done) | (simp [bI, minP, maxP, c1]; done) | (simp_all [bI, minP, maxP]; done)) rfl dX0_hasMotion_13
  · skip
    refine lv_iconst (v := 1) hx hb dX0_hasMotion_8 (by decide) ?_
    refine lv_goto (tgt := 13) hx hb dX0_hasMotion_9 (by decide) ?_
    exact z_zret hx hb hr hlocks hP hD hK hS (rfl) (by first | rfl | (simp only [bI, minP, maxP, c1, not_true_eq_false, not_false_eq_true, and_self, and_true, true_and, and_false, false_and, or_true, true_or, or_false, false_or, if_true, if_false, ite_true, ite_false]; done) | (simp [bI, minP, maxP, c1]; done) | (simp_all [bI, minP, maxP]; done)) rfl dX0_hasMotion_13
set_option maxHeartbeats 4000000 in
set_option maxRecDepth 100000 in
theorem c_X0_openMotion (a b : Int32) : zM l D (zT cI cC cM cB cJ) yX0_openMotion cX0_openMotion 3 none ({ frames := 0, cells := 0, slots := 0, locals := 0 } : Room) [.ref (ad 0), .int a, .int b] (bkW cI cM ad z wr) (bkW cI cM ad (upd (upd z 10 a) 11 b) wr) none 0 0 := by
  refine z_enter (by decide) (Nat.le_of_ble_eq_true rfl) ?_
  intro p e s m below meth c A S hr hlocks hnm hN hA hK hP hD hS ls hl
  obtain ⟨hx, hb, hml, hown, hts⟩ := id S
  have hl : lv_has ls 3 [(0, .ref (ad 0)), (1, .int a), (2, .int b)] := hl
  have hP : va_P D vwCl (bkW cI cM ad z wr) s.heap := hP
  have hD : va_D A (bkW cI cM ad z wr) := hD
  refine lv_aload_n hx hb dX0_openMotion_0 rfl (lv_at hl 0 rfl) ?_
  refine lv_iload_n hx hb dX0_openMotion_1 rfl (lv_at hl 1 rfl) ?_
  refine z_put (v := .int a) (ty := .int) (ws2 := bkW cI cM ad (upd z 10 a) wr) hx hb hts inTX0 tyX0 tyX0_ok nmX0 hown hK hP hD hS (0) (bk_0) rfl 7 (by decide) (hts _ qf_X0_25) (fun _ h9 => h9) rfl (by decide +kernel) (rfl) (rfl) (Nat.le_of_ble_eq_true rfl) dX0_openMotion_2 (bk_w0 _ (by decide) (by decide) bfs_s7) (fun H locs hP hD hS => ?_)
  refine lv_aload_n hx hb dX0_openMotion_5 rfl (lv_at hl 0 rfl) ?_
  refine lv_iload_n hx hb dX0_openMotion_6 rfl (lv_at hl 2 rfl) ?_
  refine z_put (v := .int b) (ty := .int) (ws2 := bkW cI cM ad (upd (upd z 10 a) 11 b) wr) hx hb hts inTX0 tyX0 tyX0_ok nmX0 hown hK hP hD hS (0) (bk_0) rfl 8 (by decide) (hts _ qf_X0_48) (fun _ h9 => h9) rfl (by decide +kernel) (rfl) (rfl) (Nat.le_of_ble_eq_true rfl) dX0_openMotion_7 (bk_w0 _ (by decide) (by decide) bfs_s8) (fun H locs hP hD hS => ?_)
  exact z_vret hx hb hr hlocks hP hD hK hS (rfl) (rfl) dX0_openMotion_10
set_option maxHeartbeats 4000000 in
set_option maxRecDepth 100000 in
theorem c_X0_allowsMotion (j : Nat) (hj : j < 8) (mn : Int32) : zM l D (zT cI cC cM cB cJ) yX0_allowsMotion cX0_allowsMotion 3 (some .boolean) ({ frames := 1, cells := 0, slots := 0, locals := 20 } : Room) [.ref (ad 0), .int (nI j), .int mn] (bkW cI cM ad z wr) (bkW cI cM ad z wr) (some (.int (bI (alwM z j mn)))) 0 0 := by
  refine z_enter (by decide) (Nat.le_of_ble_eq_true rfl) ?_
  intro p e s m below meth c A S hr hlocks hnm hN hA hK hP hD hS ls hl
  obtain ⟨hx, hb, hml, hown, hts⟩ := id S
  have hl : lv_has ls 3 [(0, .ref (ad 0)), (1, .int (nI j)), (2, .int mn)] := hl
  have hP : va_P D vwCl (bkW cI cM ad z wr) s.heap := hP
  have hD : va_D A (bkW cI cM ad z wr) := hD
  refine lv_aload_n hx hb dX0_allowsMotion_0 rfl (lv_at hl 0 rfl) ?_
  refine va_get (v := .ref (ad 1)) hx hb hts inTX0 hown hK hP (0) (bk_0) rfl 0 (by decide) (hts _ qf_X0_11) (fun _ h9 => h9) (rfl) dX0_allowsMotion_1 ?_
  refine lv_iload_n hx hb dX0_allowsMotion_4 rfl (lv_at hl 1 rfl) ?_
  refine va_aldq hx hb hK hP (1) 2 (bk_1) rfl (vp_in_nI (show j < 8 by omega) (by omega)) dX0_allowsMotion_5 ?_
  refine z_top (v2 := .ref (ad (3 + j))) (z_rf rfl) ?_
  refine va_get (v := .int (z (14 + 16 * j))) hx hb hts inTX4 hown hK hP (3 + j) (bk_m (show j < 8 by omega)) rfl 1 (by decide) (hts _ qf_X0_51) (fun _ h9 => h9) (rfl) dX0_allowsMotion_6 ?_
  refine lv_if_eq (tgt := 37) hx hb dX0_allowsMotion_9 (by decide) (fun c1 => ?_) (fun c1 => ?_)
  · skip
    refine lv_iconst (v := 0) hx hb dX0_allowsMotion_37 (by decide) ?_
    exact z_zret hx hb hr hlocks hP hD hK hS (rfl) (by first | rfl | (simp only [bI, alwM, minP, maxP, c1, not_true_eq_false, not_false_eq_true, and_self, and_true, true_and, and_false, false_and, or_true, true_or, or_false, false_or, if_true, if_false, ite_true, ite_false]; done) | (simp [bI, alwM, minP, maxP, c1]; done) | (simp_all [bI, alwM, minP, maxP]; done)) rfl dX0_allowsMotion_38
  · skip
    refine lv_aload_n hx hb dX0_allowsMotion_12 rfl (lv_at hl 0 rfl) ?_
    refine z_callV1 (rest := []) S (c_X0_hasMotion ) qm_X0_71 v_X0_hasMotion ⟨Nat.le_of_ble_eq_true rfl, Nat.le_of_ble_eq_true rfl⟩ rfl rfl hN hK hP hD hS hA (0) (bk_0) rfl rfl hl.1 rfl (Nat.le_of_ble_eq_true rfl) dX0_allowsMotion_13 ⟨Nat.le_of_ble_eq_true rfl, Nat.le_of_ble_eq_true rfl⟩ (fun H locs hP hD hS => ?_)
    refine lv_if_ne (tgt := 37) hx hb dX0_allowsMotion_16 (by decide) (fun c2 => ?_) (fun c2 => ?_)
    · have c2 := bI_1 c2
      refine lv_iconst (v := 0) hx hb dX0_allowsMotion_37 (by decide) ?_
      exact z_zret hx hb hr hlocks hP hD hK hS (rfl) (by first | rfl | (simp only [bI, alwM, minP, maxP, c1, c2, not_true_eq_false, not_false_eq_true, and_self, and_true, true_and, and_false, false_and, or_true, true_or, or_false, false_or, if_true, if_false, ite_true, ite_false]; done) | (simp [bI, alwM, minP, maxP, c1, c2]; done) | (simp_all [bI, alwM, minP, maxP]; done)) rfl dX0_allowsMotion_38
    · have c2 := bI_0n c2
      refine lv_aload_n hx hb dX0_allowsMotion_19 rfl (lv_at hl 0 rfl) ?_
      refine va_get (v := .ref (ad 1)) hx hb hts inTX0 hown hK hP (0) (bk_0) rfl 0 (by decide) (hts _ qf_X0_11) (fun _ h9 => h9) (rfl) dX0_allowsMotion_20 ?_
      refine lv_iload_n hx hb dX0_allowsMotion_23 rfl (lv_at hl 1 rfl) ?_
      refine va_aldq hx hb hK hP (1) 2 (bk_1) rfl (vp_in_nI (show j < 8 by omega) (by omega)) dX0_allowsMotion_24 ?_
      refine z_top (v2 := .ref (ad (3 + j))) (z_rf rfl) ?_
      refine va_get (v := .int (z (14 + 16 * j + 1))) hx hb hts inTX4 hown hK hP (3 + j) (bk_m (show j < 8 by omega)) rfl 3 (by decide) (hts _ qf_X0_55) (fun _ h9 => h9) (rfl) dX0_allowsMotion_25 ?_
      refine lv_ineg hx hb dX0_allowsMotion_28 ?_
      refine lv_iload_n hx hb dX0_allowsMotion_29 rfl (lv_at hl 2 rfl) ?_
      refine lv_icmp_lt (tgt := 37) hx hb dX0_allowsMotion_30 (by decide) (fun c3 => ?_) (fun c3 => ?_)
      · skip
        refine lv_iconst (v := 0) hx hb dX0_allowsMotion_37 (by decide) ?_
        exact z_zret hx hb hr hlocks hP hD hK hS (rfl) (by first | rfl | (simp only [bI, alwM, minP, maxP, c1, c2, c3, not_true_eq_false, not_false_eq_true, and_self, and_true, true_and, and_false, false_and, or_true, true_or, or_false, false_or, if_true, if_false, ite_true, ite_false]; done) | (simp [bI, alwM, minP, maxP, c1, c2, c3]; done) | (simp_all [bI, alwM, minP, maxP]; done)) rfl dX0_allowsMotion_38
      · skip
        refine lv_iconst (v := 1) hx hb dX0_allowsMotion_33 (by decide) ?_
        refine lv_goto (tgt := 38) hx hb dX0_allowsMotion_34 (by decide) ?_
        exact z_zret hx hb hr hlocks hP hD hK hS (rfl) (by first | rfl | (simp only [bI, alwM, minP, maxP, c1, c2, c3, not_true_eq_false, not_false_eq_true, and_self, and_true, true_and, and_false, false_and, or_true, true_or, or_false, false_or, if_true, if_false, ite_true, ite_false]; done) | (simp [bI, alwM, minP, maxP, c1, c2, c3]; done) | (simp_all [bI, alwM, minP, maxP]; done)) rfl dX0_allowsMotion_38
set_option maxHeartbeats 4000000 in
set_option maxRecDepth 100000 in
theorem c_X0_canVote (j : Nat) (hj : j < 8) : zM l D (zT cI cC cM cB cJ) yX0_canVote cX0_canVote 2 (some .boolean) ({ frames := 1, cells := 0, slots := 0, locals := 20 } : Room) [.ref (ad 0), .int (nI j)] (bkW cI cM ad z wr) (bkW cI cM ad z wr) (some (.int (bI (cvP z j)))) 0 0 := by
  refine z_enter (by decide) (Nat.le_of_ble_eq_true rfl) ?_
  intro p e s m below meth c A S hr hlocks hnm hN hA hK hP hD hS ls hl
  obtain ⟨hx, hb, hml, hown, hts⟩ := id S
  have hl : lv_has ls 2 [(0, .ref (ad 0)), (1, .int (nI j))] := hl
  have hP : va_P D vwCl (bkW cI cM ad z wr) s.heap := hP
  have hD : va_D A (bkW cI cM ad z wr) := hD
  refine lv_aload_n hx hb dX0_canVote_0 rfl (lv_at hl 0 rfl) ?_
  refine z_callV1 (rest := []) S (c_X0_hasMotion ) qm_X0_71 v_X0_hasMotion ⟨Nat.le_of_ble_eq_true rfl, Nat.le_of_ble_eq_true rfl⟩ rfl rfl hN hK hP hD hS hA (0) (bk_0) rfl rfl hl.1 rfl (Nat.le_of_ble_eq_true rfl) dX0_canVote_1 ⟨Nat.le_of_ble_eq_true rfl, Nat.le_of_ble_eq_true rfl⟩ (fun H locs hP hD hS => ?_)
  refine lv_if_eq (tgt := 43) hx hb dX0_canVote_4 (by decide) (fun c1 => ?_) (fun c1 => ?_)
  · have c1 := bI_0n c1
    refine lv_iconst (v := 0) hx hb dX0_canVote_43 (by decide) ?_
    exact z_zret hx hb hr hlocks hP hD hK hS (rfl) (by first | rfl | (simp only [bI, cvP, minP, maxP, c1, not_true_eq_false, not_false_eq_true, and_self, and_true, true_and, and_false, false_and, or_true, true_or, or_false, false_or, if_true, if_false, ite_true, ite_false]; done) | (simp [bI, cvP, minP, maxP, c1]; done) | (simp_all [bI, cvP, minP, maxP]; done)) rfl dX0_canVote_44
  · have c1 := bI_1 c1
    refine lv_iload_n hx hb dX0_canVote_7 rfl (lv_at hl 1 rfl) ?_
    refine lv_aload_n hx hb dX0_canVote_8 rfl (lv_at hl 0 rfl) ?_
    refine va_get (v := .int (z 10)) hx hb hts inTX0 hown hK hP (0) (bk_0) rfl 7 (by decide) (hts _ qf_X0_25) (fun _ h9 => h9) (rfl) dX0_canVote_9 ?_
    refine lv_icmp_eq (tgt := 43) hx hb dX0_canVote_12 (by decide) (fun c2 => ?_) (fun c2 => ?_)
    · skip
      refine lv_iconst (v := 0) hx hb dX0_canVote_43 (by decide) ?_
      exact z_zret hx hb hr hlocks hP hD hK hS (rfl) (by first | rfl | (simp only [bI, cvP, minP, maxP, c1, c2, not_true_eq_false, not_false_eq_true, and_self, and_true, true_and, and_false, false_and, or_true, true_or, or_false, false_or, if_true, if_false, ite_true, ite_false]; done) | (simp [bI, cvP, minP, maxP, c1, c2]; done) | (simp_all [bI, cvP, minP, maxP]; done)) rfl dX0_canVote_44
    · skip
      refine lv_aload_n hx hb dX0_canVote_15 rfl (lv_at hl 0 rfl) ?_
      refine va_get (v := .ref (ad 1)) hx hb hts inTX0 hown hK hP (0) (bk_0) rfl 0 (by decide) (hts _ qf_X0_11) (fun _ h9 => h9) (rfl) dX0_canVote_16 ?_
      refine lv_iload_n hx hb dX0_canVote_19 rfl (lv_at hl 1 rfl) ?_
      refine va_aldq hx hb hK hP (1) 2 (bk_1) rfl (vp_in_nI (show j < 8 by omega) (by omega)) dX0_canVote_20 ?_
      refine z_top (v2 := .ref (ad (3 + j))) (z_rf rfl) ?_
      refine va_get (v := .int (z (14 + 16 * j))) hx hb hts inTX4 hown hK hP (3 + j) (bk_m (show j < 8 by omega)) rfl 1 (by decide) (hts _ qf_X0_51) (fun _ h9 => h9) (rfl) dX0_canVote_21 ?_
      refine lv_if_eq (tgt := 43) hx hb dX0_canVote_24 (by decide) (fun c3 => ?_) (fun c3 => ?_)
      · skip
        refine lv_iconst (v := 0) hx hb dX0_canVote_43 (by decide) ?_
        exact z_zret hx hb hr hlocks hP hD hK hS (rfl) (by first | rfl | (simp only [bI, cvP, minP, maxP, c1, c2, c3, not_true_eq_false, not_false_eq_true, and_self, and_true, true_and, and_false, false_and, or_true, true_or, or_false, false_or, if_true, if_false, ite_true, ite_false]; done) | (simp [bI, cvP, minP, maxP, c1, c2, c3]; done) | (simp_all [bI, cvP, minP, maxP]; done)) rfl dX0_canVote_44
      · skip
        refine lv_aload_n hx hb dX0_canVote_27 rfl (lv_at hl 0 rfl) ?_
        refine va_get (v := .ref (ad 1)) hx hb hts inTX0 hown hK hP (0) (bk_0) rfl 0 (by decide) (hts _ qf_X0_11) (fun _ h9 => h9) (rfl) dX0_canVote_28 ?_
        refine lv_iload_n hx hb dX0_canVote_31 rfl (lv_at hl 1 rfl) ?_
        refine va_aldq hx hb hK hP (1) 2 (bk_1) rfl (vp_in_nI (show j < 8 by omega) (by omega)) dX0_canVote_32 ?_
        refine z_top (v2 := .ref (ad (3 + j))) (z_rf rfl) ?_
        refine va_get (v := .int (z (142 + j))) hx hb hts inTX4 hown hK hP (3 + j) (bk_m (show j < 8 by omega)) rfl 12 (by decide) (hts _ qf_X0_65) (fun _ h9 => h9) (rfl) dX0_canVote_33 ?_
        refine lv_if_ne (tgt := 43) hx hb dX0_canVote_36 (by decide) (fun c4 => ?_) (fun c4 => ?_)
        · skip
          refine lv_iconst (v := 0) hx hb dX0_canVote_43 (by decide) ?_
          exact z_zret hx hb hr hlocks hP hD hK hS (rfl) (by first | rfl | (simp only [bI, cvP, minP, maxP, c1, c2, c3, c4, not_true_eq_false, not_false_eq_true, and_self, and_true, true_and, and_false, false_and, or_true, true_or, or_false, false_or, if_true, if_false, ite_true, ite_false]; done) | (simp [bI, cvP, minP, maxP, c1, c2, c3, c4]; done) | (simp_all [bI, cvP, minP, maxP]; done)) rfl dX0_canVote_44
        · skip
          refine lv_iconst (v := 1) hx hb dX0_canVote_39 (by decide) ?_
          refine lv_goto (tgt := 44) hx hb dX0_canVote_40 (by decide) ?_
          exact z_zret hx hb hr hlocks hP hD hK hS (rfl) (by first | rfl | (simp only [bI, cvP, minP, maxP, c1, c2, c3, c4, not_true_eq_false, not_false_eq_true, and_self, and_true, true_and, and_false, false_and, or_true, true_or, or_false, false_or, if_true, if_false, ite_true, ite_false]; done) | (simp [bI, cvP, minP, maxP, c1, c2, c3, c4]; done) | (simp_all [bI, cvP, minP, maxP]; done)) rfl dX0_canVote_44
set_option maxHeartbeats 4000000 in
set_option maxRecDepth 100000 in
theorem c_X0_countThere {n : Nat} (hn : n ≤ 8) (hz : z 5 = nI n) : zM l D (zT cI cC cM cB cJ) yX0_countThere cX0_countThere 3 (some .int) ({ frames := 0, cells := 0, slots := 0, locals := 0 } : Room) [.ref (ad 0)] (bkW cI cM ad z wr) (bkW cI cM ad z wr) (some (.int (cntT z n))) 0 0 := by
  refine z_enter (by decide) (Nat.le_of_ble_eq_true rfl) ?_
  intro p e s m below meth c A S hr hlocks hnm hN hA hK hP hD hS ls hl
  obtain ⟨hx, hb, hml, hown, hts⟩ := id S
  have hl : lv_has ls 3 [(0, .ref (ad 0))] := hl
  have hP : va_P D vwCl (bkW cI cM ad z wr) s.heap := hP
  have hD : va_D A (bkW cI cM ad z wr) := hD
  refine lv_iconst (v := 0) hx hb dX0_countThere_0 (by decide) ?_
  refine lv_istore_n (lv' := [(1, .int 0), (0, .ref (ad 0))]) hx hb dX0_countThere_1 rfl hl (by decide) rfl (fun ls hl => ?_)
  refine lv_iconst (v := 0) hx hb dX0_countThere_2 (by decide) ?_
  refine lv_istore_n (lv' := [(2, .int 0), (1, .int 0), (0, .ref (ad 0))]) hx hb dX0_countThere_3 rfl hl (by decide) rfl (fun ls hl => ?_)
  have K4 : ∀ (n4 i : Nat), i + n4 = n → ∀ (H : Heap) (locs : List Loc), va_P D vwCl (bkW cI cM ad z wr) H → va_D A (bkW cI cM ad z wr) → va_S A s.heap H locs → ∀ ls : Array Slot, lv_has ls 3 [(0, .ref (ad 0)), (1, .int (cntT z i)), (2, .int (nI i))] → W p l e ({ frames := 0, cells := 0, slots := 0, locals := 0 } : Room) s m ([.ref (ad 0)] : List Value).toArray below meth c H locs 0 0 (MQ below (zQ D (zT cI cC cM cB cJ) (bkW cI cM ad z wr) (some (.int (cntT z n))) A) ([.ref (ad 0)] : List Value).toArray s 0 0 A) (F0 m 4 ls []) := by
    intro n4
    induction n4 with
    | zero =>
      intro i hi H locs hP hD hS ls hl
      have ei : i = n := by omega
      refine lv_iload_n hx hb dX0_countThere_4 rfl (lv_at hl 2 rfl) ?_
      refine lv_aload_n hx hb dX0_countThere_5 rfl (lv_at hl 0 rfl) ?_
      refine va_get (v := .int (nI n)) hx hb hts inTX0 hown hK hP (0) (bk_0) rfl 2 (by decide) (hts _ qf_X0_33) (fun _ h9 => h9) (congrArg (fun x => some (Value.int x)) (hz)) dX0_countThere_6 ?_
      refine lv_icmp_ge (tgt := 33) hx hb dX0_countThere_9 (by decide) (fun c1 => ?_) (fun c1 => absurd (nI_le (a := n) (b := i) (by omega) (by omega)) c1)
      have c1 := z_nlt c1
      refine lv_iload_n hx hb dX0_countThere_33 rfl (lv_at hl 1 rfl) ?_
      exact z_iret hx hb hr hlocks hP hD hK hS (rfl) (by first | rfl | (simp only [minP, maxP, c1, not_true_eq_false, not_false_eq_true, and_self, and_true, true_and, and_false, false_and, or_true, true_or, or_false, false_or, if_true, if_false, ite_true, ite_false]; done) | (simp [minP, maxP, c1]; done) | (simp_all [minP, maxP]; done)) dX0_countThere_34
    | succ n4 ih4 =>
      intro i hi H locs hP hD hS ls hl
      have li : i < n := by omega
      refine lv_iload_n hx hb dX0_countThere_4 rfl (lv_at hl 2 rfl) ?_
      refine lv_aload_n hx hb dX0_countThere_5 rfl (lv_at hl 0 rfl) ?_
      refine va_get (v := .int (nI n)) hx hb hts inTX0 hown hK hP (0) (bk_0) rfl 2 (by decide) (hts _ qf_X0_33) (fun _ h9 => h9) (congrArg (fun x => some (Value.int x)) (hz)) dX0_countThere_6 ?_
      refine lv_icmp_ge (tgt := 33) hx hb dX0_countThere_9 (by decide) (fun c2 => absurd c2 (nI_ge (a := i) (b := n) (by omega) (by omega))) (fun c2 => ?_)
      have c2 := z_lt c2
      refine lv_aload_n hx hb dX0_countThere_12 rfl (lv_at hl 0 rfl) ?_
      refine va_get (v := .ref (ad 1)) hx hb hts inTX0 hown hK hP (0) (bk_0) rfl 0 (by decide) (hts _ qf_X0_11) (fun _ h9 => h9) (rfl) dX0_countThere_13 ?_
      refine lv_iload_n hx hb dX0_countThere_16 rfl (lv_at hl 2 rfl) ?_
      refine va_aldq hx hb hK hP (1) 2 (bk_1) rfl (vp_in_nI (show i < 8 by omega) (by omega)) dX0_countThere_17 ?_
      refine z_top (v2 := .ref (ad (3 + i))) (z_rf rfl) ?_
      refine va_get (v := .int (z (14 + 16 * i))) hx hb hts inTX4 hown hK hP (3 + i) (bk_m (show i < 8 by omega)) rfl 1 (by decide) (hts _ qf_X0_51) (fun _ h9 => h9) (rfl) dX0_countThere_18 ?_
      refine lv_if_eq (tgt := 27) hx hb dX0_countThere_21 (by decide) (fun c3 => ?_) (fun c3 => ?_)
      · skip
        refine lv_iinc (v := nI (i + 1)) (lv' := [(2, .int (nI (i + 1))), (0, .ref (ad 0)), (1, .int (cntT z i))]) hx hb dX0_countThere_27 hl (k := 2) rfl (nI_1 _) (by decide) rfl (fun ls hl => ?_)
        refine lv_goto (tgt := 4) hx hb dX0_countThere_30 (by decide) ?_
        have hl := (congrArg (fun q => lv_has ls 3 [(2, .int (nI (i + 1))), (0, .ref (ad 0)), (1, q)]) (show Value.int (cntT z i) = .int (cntT z (i + 1)) from congrArg Value.int (by first | rfl | (simp only [cntT, c2, c3, not_true_eq_false, not_false_eq_true, and_self, and_true, true_and, and_false, false_and, or_true, true_or, or_false, false_or, if_true, if_false, ite_true, ite_false]; done) | (simp [cntT, c2, c3]; done)))).mp hl
        exact ih4 (i + 1) (by omega) _ _ hP hD hS ls (lv_sub hl [1, 2, 0] rfl)
      · skip
        refine lv_iinc (v := (cntT z i) + 1) (lv' := [(1, .int ((cntT z i) + 1)), (0, .ref (ad 0)), (2, .int (nI i))]) hx hb dX0_countThere_24 hl (k := 1) rfl (by rfl) (by decide) rfl (fun ls hl => ?_)
        refine lv_iinc (v := nI (i + 1)) (lv' := [(2, .int (nI (i + 1))), (1, .int ((cntT z i) + 1)), (0, .ref (ad 0))]) hx hb dX0_countThere_27 hl (k := 2) rfl (nI_1 _) (by decide) rfl (fun ls hl => ?_)
        refine lv_goto (tgt := 4) hx hb dX0_countThere_30 (by decide) ?_
        have hl := (congrArg (fun q => lv_has ls 3 [(2, .int (nI (i + 1))), (1, q), (0, .ref (ad 0))]) (show Value.int ((cntT z i) + 1) = .int (cntT z (i + 1)) from congrArg Value.int (by first | rfl | (simp only [cntT, c2, c3, not_true_eq_false, not_false_eq_true, and_self, and_true, true_and, and_false, false_and, or_true, true_or, or_false, false_or, if_true, if_false, ite_true, ite_false]; done) | (simp [cntT, c2, c3]; done)))).mp hl
        exact ih4 (i + 1) (by omega) _ _ hP hD hS ls (lv_sub hl [2, 1, 0] rfl)
  have hl := (congrArg (fun q => lv_has ls 3 [(2, .int 0), (1, q), (0, .ref (ad 0))]) (show Value.int 0 = .int (cntT z 0) from congrArg Value.int (by rfl))).mp hl
  have hl := (congrArg (fun q => lv_has ls 3 [(2, q), (1, .int (cntT z 0)), (0, .ref (ad 0))]) (show Value.int 0 = .int (nI 0) from congrArg Value.int (by rfl))).mp hl
  exact K4 n 0 (by omega) _ _ hP hD hS ls (lv_sub hl [2, 1, 0] rfl)
set_option maxHeartbeats 4000000 in
set_option maxRecDepth 100000 in
theorem c_X0_sumOfCredits {n : Nat} (hn : n ≤ 8) (hz : z 5 = nI n) : zM l D (zT cI cC cM cB cJ) yX0_sumOfCredits cX0_sumOfCredits 3 (some .int) ({ frames := 1, cells := 0, slots := 0, locals := 21 } : Room) [.ref (ad 0)] (bkW cI cM ad z wr) (bkW cI cM ad z wr) (some (.int (sumC z n))) 0 0 := by
  refine z_enter (by decide) (Nat.le_of_ble_eq_true rfl) ?_
  intro p e s m below meth c A S hr hlocks hnm hN hA hK hP hD hS ls hl
  obtain ⟨hx, hb, hml, hown, hts⟩ := id S
  have hl : lv_has ls 3 [(0, .ref (ad 0))] := hl
  have hP : va_P D vwCl (bkW cI cM ad z wr) s.heap := hP
  have hD : va_D A (bkW cI cM ad z wr) := hD
  refine lv_iconst (v := 0) hx hb dX0_sumOfCredits_0 (by decide) ?_
  refine lv_istore_n (lv' := [(1, .int 0), (0, .ref (ad 0))]) hx hb dX0_sumOfCredits_1 rfl hl (by decide) rfl (fun ls hl => ?_)
  refine lv_iconst (v := 0) hx hb dX0_sumOfCredits_2 (by decide) ?_
  refine lv_istore_n (lv' := [(2, .int 0), (1, .int 0), (0, .ref (ad 0))]) hx hb dX0_sumOfCredits_3 rfl hl (by decide) rfl (fun ls hl => ?_)
  have K4 : ∀ (n4 i : Nat), i + n4 = n → ∀ (H : Heap) (locs : List Loc), va_P D vwCl (bkW cI cM ad z wr) H → va_D A (bkW cI cM ad z wr) → va_S A s.heap H locs → ∀ ls : Array Slot, lv_has ls 3 [(0, .ref (ad 0)), (1, .int (sumC z i)), (2, .int (nI i))] → W p l e ({ frames := 1, cells := 0, slots := 0, locals := 21 } : Room) s m ([.ref (ad 0)] : List Value).toArray below meth c H locs 0 0 (MQ below (zQ D (zT cI cC cM cB cJ) (bkW cI cM ad z wr) (some (.int (sumC z n))) A) ([.ref (ad 0)] : List Value).toArray s 0 0 A) (F0 m 4 ls []) := by
    intro n4
    induction n4 with
    | zero =>
      intro i hi H locs hP hD hS ls hl
      have ei : i = n := by omega
      refine lv_iload_n hx hb dX0_sumOfCredits_4 rfl (lv_at hl 2 rfl) ?_
      refine lv_aload_n hx hb dX0_sumOfCredits_5 rfl (lv_at hl 0 rfl) ?_
      refine va_get (v := .int (nI n)) hx hb hts inTX0 hown hK hP (0) (bk_0) rfl 2 (by decide) (hts _ qf_X0_33) (fun _ h9 => h9) (congrArg (fun x => some (Value.int x)) (hz)) dX0_sumOfCredits_6 ?_
      refine lv_icmp_ge (tgt := 34) hx hb dX0_sumOfCredits_9 (by decide) (fun c1 => ?_) (fun c1 => absurd (nI_le (a := n) (b := i) (by omega) (by omega)) c1)
      have c1 := z_nlt c1
      refine lv_iload_n hx hb dX0_sumOfCredits_34 rfl (lv_at hl 1 rfl) ?_
      exact z_iret hx hb hr hlocks hP hD hK hS (rfl) (by first | rfl | (simp only [minP, maxP, c1, not_true_eq_false, not_false_eq_true, and_self, and_true, true_and, and_false, false_and, or_true, true_or, or_false, false_or, if_true, if_false, ite_true, ite_false]; done) | (simp [minP, maxP, c1]; done) | (simp_all [minP, maxP]; done)) dX0_sumOfCredits_35
    | succ n4 ih4 =>
      intro i hi H locs hP hD hS ls hl
      have li : i < n := by omega
      refine lv_iload_n hx hb dX0_sumOfCredits_4 rfl (lv_at hl 2 rfl) ?_
      refine lv_aload_n hx hb dX0_sumOfCredits_5 rfl (lv_at hl 0 rfl) ?_
      refine va_get (v := .int (nI n)) hx hb hts inTX0 hown hK hP (0) (bk_0) rfl 2 (by decide) (hts _ qf_X0_33) (fun _ h9 => h9) (congrArg (fun x => some (Value.int x)) (hz)) dX0_sumOfCredits_6 ?_
      refine lv_icmp_ge (tgt := 34) hx hb dX0_sumOfCredits_9 (by decide) (fun c2 => absurd c2 (nI_ge (a := i) (b := n) (by omega) (by omega))) (fun c2 => ?_)
      have c2 := z_lt c2
      refine lv_iload_n hx hb dX0_sumOfCredits_12 rfl (lv_at hl 1 rfl) ?_
      refine lv_aload_n hx hb dX0_sumOfCredits_13 rfl (lv_at hl 0 rfl) ?_
      refine va_get (v := .ref (ad 1)) hx hb hts inTX0 hown hK hP (0) (bk_0) rfl 0 (by decide) (hts _ qf_X0_11) (fun _ h9 => h9) (rfl) dX0_sumOfCredits_14 ?_
      refine lv_iload_n hx hb dX0_sumOfCredits_17 rfl (lv_at hl 2 rfl) ?_
      refine va_aldq hx hb hK hP (1) 2 (bk_1) rfl (vp_in_nI (show i < 8 by omega) (by omega)) dX0_sumOfCredits_18 ?_
      refine z_top (v2 := .ref (ad (3 + i))) (z_rf rfl) ?_
      refine va_get (v := .int (z (14 + 16 * i + 1))) hx hb hts inTX4 hown hK hP (3 + i) (bk_m (show i < 8 by omega)) rfl 3 (by decide) (hts _ qf_X0_55) (fun _ h9 => h9) (rfl) dX0_sumOfCredits_19 ?_
      refine lv_iconst (v := 0) hx hb dX0_sumOfCredits_22 (by decide) ?_
      refine va_mmax hx hb (hml.trans hl.1.symm) hown (hts _ qm_X0_163) (hts _ qt_Mmax) (hts _ qn_J9) (hts _ qc_Mmax) (Nat.le_of_ble_eq_true rfl) (Nat.le_of_ble_eq_true rfl) (Nat.le_of_ble_eq_true rfl) (Nat.le_of_ble_eq_true rfl) dX0_sumOfCredits_23 ?_
      refine lv_iadd hx hb dX0_sumOfCredits_26  ?_
      refine lv_istore_n (lv' := [(1, .int ((sumC z i) + (maxP (z (14 + 16 * i + 1)) 0))), (0, .ref (ad 0)), (2, .int (nI i))]) hx hb dX0_sumOfCredits_27 rfl hl (by decide) rfl (fun ls hl => ?_)
      refine lv_iinc (v := nI (i + 1)) (lv' := [(2, .int (nI (i + 1))), (1, .int ((sumC z i) + (maxP (z (14 + 16 * i + 1)) 0))), (0, .ref (ad 0))]) hx hb dX0_sumOfCredits_28 hl (k := 2) rfl (nI_1 _) (by decide) rfl (fun ls hl => ?_)
      refine lv_goto (tgt := 4) hx hb dX0_sumOfCredits_31 (by decide) ?_
      have hl := (congrArg (fun q => lv_has ls 3 [(2, .int (nI (i + 1))), (1, q), (0, .ref (ad 0))]) (show Value.int ((sumC z i) + (maxP (z (14 + 16 * i + 1)) 0)) = .int (sumC z (i + 1)) from congrArg Value.int (by first | rfl | (simp only [sumC, c2, not_true_eq_false, not_false_eq_true, and_self, and_true, true_and, and_false, false_and, or_true, true_or, or_false, false_or, if_true, if_false, ite_true, ite_false]; done) | (simp [sumC, c2]; done)))).mp hl
      exact ih4 (i + 1) (by omega) _ _ hP hD hS ls (lv_sub hl [2, 1, 0] rfl)
  have hl := (congrArg (fun q => lv_has ls 3 [(2, .int 0), (1, q), (0, .ref (ad 0))]) (show Value.int 0 = .int (sumC z 0) from congrArg Value.int (by rfl))).mp hl
  have hl := (congrArg (fun q => lv_has ls 3 [(2, q), (1, .int (sumC z 0)), (0, .ref (ad 0))]) (show Value.int 0 = .int (nI 0) from congrArg Value.int (by rfl))).mp hl
  exact K4 n 0 (by omega) _ _ hP hD hS ls (lv_sub hl [2, 1, 0] rfl)
set_option maxHeartbeats 4000000 in
set_option maxRecDepth 100000 in
theorem c_X0_sumOfDebts {n : Nat} (hn : n ≤ 8) (hz : z 5 = nI n) : zM l D (zT cI cC cM cB cJ) yX0_sumOfDebts cX0_sumOfDebts 3 (some .int) ({ frames := 1, cells := 0, slots := 0, locals := 21 } : Room) [.ref (ad 0)] (bkW cI cM ad z wr) (bkW cI cM ad z wr) (some (.int (sumD z n))) 0 0 := by
  refine z_enter (by decide) (Nat.le_of_ble_eq_true rfl) ?_
  intro p e s m below meth c A S hr hlocks hnm hN hA hK hP hD hS ls hl
  obtain ⟨hx, hb, hml, hown, hts⟩ := id S
  have hl : lv_has ls 3 [(0, .ref (ad 0))] := hl
  have hP : va_P D vwCl (bkW cI cM ad z wr) s.heap := hP
  have hD : va_D A (bkW cI cM ad z wr) := hD
  refine lv_iconst (v := 0) hx hb dX0_sumOfDebts_0 (by decide) ?_
  refine lv_istore_n (lv' := [(1, .int 0), (0, .ref (ad 0))]) hx hb dX0_sumOfDebts_1 rfl hl (by decide) rfl (fun ls hl => ?_)
  refine lv_iconst (v := 0) hx hb dX0_sumOfDebts_2 (by decide) ?_
  refine lv_istore_n (lv' := [(2, .int 0), (1, .int 0), (0, .ref (ad 0))]) hx hb dX0_sumOfDebts_3 rfl hl (by decide) rfl (fun ls hl => ?_)
  have K4 : ∀ (n4 i : Nat), i + n4 = n → ∀ (H : Heap) (locs : List Loc), va_P D vwCl (bkW cI cM ad z wr) H → va_D A (bkW cI cM ad z wr) → va_S A s.heap H locs → ∀ ls : Array Slot, lv_has ls 3 [(0, .ref (ad 0)), (1, .int (sumD z i)), (2, .int (nI i))] → W p l e ({ frames := 1, cells := 0, slots := 0, locals := 21 } : Room) s m ([.ref (ad 0)] : List Value).toArray below meth c H locs 0 0 (MQ below (zQ D (zT cI cC cM cB cJ) (bkW cI cM ad z wr) (some (.int (sumD z n))) A) ([.ref (ad 0)] : List Value).toArray s 0 0 A) (F0 m 4 ls []) := by
    intro n4
    induction n4 with
    | zero =>
      intro i hi H locs hP hD hS ls hl
      have ei : i = n := by omega
      refine lv_iload_n hx hb dX0_sumOfDebts_4 rfl (lv_at hl 2 rfl) ?_
      refine lv_aload_n hx hb dX0_sumOfDebts_5 rfl (lv_at hl 0 rfl) ?_
      refine va_get (v := .int (nI n)) hx hb hts inTX0 hown hK hP (0) (bk_0) rfl 2 (by decide) (hts _ qf_X0_33) (fun _ h9 => h9) (congrArg (fun x => some (Value.int x)) (hz)) dX0_sumOfDebts_6 ?_
      refine lv_icmp_ge (tgt := 34) hx hb dX0_sumOfDebts_9 (by decide) (fun c1 => ?_) (fun c1 => absurd (nI_le (a := n) (b := i) (by omega) (by omega)) c1)
      have c1 := z_nlt c1
      refine lv_iload_n hx hb dX0_sumOfDebts_34 rfl (lv_at hl 1 rfl) ?_
      exact z_iret hx hb hr hlocks hP hD hK hS (rfl) (by first | rfl | (simp only [minP, maxP, c1, not_true_eq_false, not_false_eq_true, and_self, and_true, true_and, and_false, false_and, or_true, true_or, or_false, false_or, if_true, if_false, ite_true, ite_false]; done) | (simp [minP, maxP, c1]; done) | (simp_all [minP, maxP]; done)) dX0_sumOfDebts_35
    | succ n4 ih4 =>
      intro i hi H locs hP hD hS ls hl
      have li : i < n := by omega
      refine lv_iload_n hx hb dX0_sumOfDebts_4 rfl (lv_at hl 2 rfl) ?_
      refine lv_aload_n hx hb dX0_sumOfDebts_5 rfl (lv_at hl 0 rfl) ?_
      refine va_get (v := .int (nI n)) hx hb hts inTX0 hown hK hP (0) (bk_0) rfl 2 (by decide) (hts _ qf_X0_33) (fun _ h9 => h9) (congrArg (fun x => some (Value.int x)) (hz)) dX0_sumOfDebts_6 ?_
      refine lv_icmp_ge (tgt := 34) hx hb dX0_sumOfDebts_9 (by decide) (fun c2 => absurd c2 (nI_ge (a := i) (b := n) (by omega) (by omega))) (fun c2 => ?_)
      have c2 := z_lt c2
      refine lv_iload_n hx hb dX0_sumOfDebts_12 rfl (lv_at hl 1 rfl) ?_
      refine lv_aload_n hx hb dX0_sumOfDebts_13 rfl (lv_at hl 0 rfl) ?_
      refine va_get (v := .ref (ad 1)) hx hb hts inTX0 hown hK hP (0) (bk_0) rfl 0 (by decide) (hts _ qf_X0_11) (fun _ h9 => h9) (rfl) dX0_sumOfDebts_14 ?_
      refine lv_iload_n hx hb dX0_sumOfDebts_17 rfl (lv_at hl 2 rfl) ?_
      refine va_aldq hx hb hK hP (1) 2 (bk_1) rfl (vp_in_nI (show i < 8 by omega) (by omega)) dX0_sumOfDebts_18 ?_
      refine z_top (v2 := .ref (ad (3 + i))) (z_rf rfl) ?_
      refine va_get (v := .int (z (14 + 16 * i + 1))) hx hb hts inTX4 hown hK hP (3 + i) (bk_m (show i < 8 by omega)) rfl 3 (by decide) (hts _ qf_X0_55) (fun _ h9 => h9) (rfl) dX0_sumOfDebts_19 ?_
      refine lv_iconst (v := 0) hx hb dX0_sumOfDebts_22 (by decide) ?_
      refine va_mmin hx hb (hml.trans hl.1.symm) hown (hts _ qm_X0_115) (hts _ qt_Mmin) (hts _ qn_J9) (hts _ qc_Mmin) (Nat.le_of_ble_eq_true rfl) (Nat.le_of_ble_eq_true rfl) (Nat.le_of_ble_eq_true rfl) (Nat.le_of_ble_eq_true rfl) dX0_sumOfDebts_23 ?_
      refine lv_iadd hx hb dX0_sumOfDebts_26  ?_
      refine lv_istore_n (lv' := [(1, .int ((sumD z i) + (minP (z (14 + 16 * i + 1)) 0))), (0, .ref (ad 0)), (2, .int (nI i))]) hx hb dX0_sumOfDebts_27 rfl hl (by decide) rfl (fun ls hl => ?_)
      refine lv_iinc (v := nI (i + 1)) (lv' := [(2, .int (nI (i + 1))), (1, .int ((sumD z i) + (minP (z (14 + 16 * i + 1)) 0))), (0, .ref (ad 0))]) hx hb dX0_sumOfDebts_28 hl (k := 2) rfl (nI_1 _) (by decide) rfl (fun ls hl => ?_)
      refine lv_goto (tgt := 4) hx hb dX0_sumOfDebts_31 (by decide) ?_
      have hl := (congrArg (fun q => lv_has ls 3 [(2, .int (nI (i + 1))), (1, q), (0, .ref (ad 0))]) (show Value.int ((sumD z i) + (minP (z (14 + 16 * i + 1)) 0)) = .int (sumD z (i + 1)) from congrArg Value.int (by first | rfl | (simp only [sumD, c2, not_true_eq_false, not_false_eq_true, and_self, and_true, true_and, and_false, false_and, or_true, true_or, or_false, false_or, if_true, if_false, ite_true, ite_false]; done) | (simp [sumD, c2]; done)))).mp hl
      exact ih4 (i + 1) (by omega) _ _ hP hD hS ls (lv_sub hl [2, 1, 0] rfl)
  have hl := (congrArg (fun q => lv_has ls 3 [(2, .int 0), (1, q), (0, .ref (ad 0))]) (show Value.int 0 = .int (sumD z 0) from congrArg Value.int (by rfl))).mp hl
  have hl := (congrArg (fun q => lv_has ls 3 [(2, q), (1, .int (sumD z 0)), (0, .ref (ad 0))]) (show Value.int 0 = .int (nI 0) from congrArg Value.int (by rfl))).mp hl
  exact K4 n 0 (by omega) _ _ hP hD hS ls (lv_sub hl [2, 1, 0] rfl)
set_option maxHeartbeats 4000000 in
set_option maxRecDepth 100000 in
theorem c_X0_sumOfLoans {n : Nat} (hn : n ≤ 8) (hz : z 5 = nI n) : zM l D (zT cI cC cM cB cJ) yX0_sumOfLoans cX0_sumOfLoans 3 (some .int) ({ frames := 0, cells := 0, slots := 0, locals := 0 } : Room) [.ref (ad 0)] (bkW cI cM ad z wr) (bkW cI cM ad z wr) (some (.int (sumF z 2 n))) 0 0 := by
  refine z_enter (by decide) (Nat.le_of_ble_eq_true rfl) ?_
  intro p e s m below meth c A S hr hlocks hnm hN hA hK hP hD hS ls hl
  obtain ⟨hx, hb, hml, hown, hts⟩ := id S
  have hl : lv_has ls 3 [(0, .ref (ad 0))] := hl
  have hP : va_P D vwCl (bkW cI cM ad z wr) s.heap := hP
  have hD : va_D A (bkW cI cM ad z wr) := hD
  refine lv_iconst (v := 0) hx hb dX0_sumOfLoans_0 (by decide) ?_
  refine lv_istore_n (lv' := [(1, .int 0), (0, .ref (ad 0))]) hx hb dX0_sumOfLoans_1 rfl hl (by decide) rfl (fun ls hl => ?_)
  refine lv_iconst (v := 0) hx hb dX0_sumOfLoans_2 (by decide) ?_
  refine lv_istore_n (lv' := [(2, .int 0), (1, .int 0), (0, .ref (ad 0))]) hx hb dX0_sumOfLoans_3 rfl hl (by decide) rfl (fun ls hl => ?_)
  have K4 : ∀ (n4 i : Nat), i + n4 = n → ∀ (H : Heap) (locs : List Loc), va_P D vwCl (bkW cI cM ad z wr) H → va_D A (bkW cI cM ad z wr) → va_S A s.heap H locs → ∀ ls : Array Slot, lv_has ls 3 [(0, .ref (ad 0)), (1, .int (sumF z 2 i)), (2, .int (nI i))] → W p l e ({ frames := 0, cells := 0, slots := 0, locals := 0 } : Room) s m ([.ref (ad 0)] : List Value).toArray below meth c H locs 0 0 (MQ below (zQ D (zT cI cC cM cB cJ) (bkW cI cM ad z wr) (some (.int (sumF z 2 n))) A) ([.ref (ad 0)] : List Value).toArray s 0 0 A) (F0 m 4 ls []) := by
    intro n4
    induction n4 with
    | zero =>
      intro i hi H locs hP hD hS ls hl
      have ei : i = n := by omega
      refine lv_iload_n hx hb dX0_sumOfLoans_4 rfl (lv_at hl 2 rfl) ?_
      refine lv_aload_n hx hb dX0_sumOfLoans_5 rfl (lv_at hl 0 rfl) ?_
      refine va_get (v := .int (nI n)) hx hb hts inTX0 hown hK hP (0) (bk_0) rfl 2 (by decide) (hts _ qf_X0_33) (fun _ h9 => h9) (congrArg (fun x => some (Value.int x)) (hz)) dX0_sumOfLoans_6 ?_
      refine lv_icmp_ge (tgt := 30) hx hb dX0_sumOfLoans_9 (by decide) (fun c1 => ?_) (fun c1 => absurd (nI_le (a := n) (b := i) (by omega) (by omega)) c1)
      have c1 := z_nlt c1
      refine lv_iload_n hx hb dX0_sumOfLoans_30 rfl (lv_at hl 1 rfl) ?_
      exact z_iret hx hb hr hlocks hP hD hK hS (rfl) (by first | rfl | (simp only [minP, maxP, c1, not_true_eq_false, not_false_eq_true, and_self, and_true, true_and, and_false, false_and, or_true, true_or, or_false, false_or, if_true, if_false, ite_true, ite_false]; done) | (simp [minP, maxP, c1]; done) | (simp_all [minP, maxP]; done)) dX0_sumOfLoans_31
    | succ n4 ih4 =>
      intro i hi H locs hP hD hS ls hl
      have li : i < n := by omega
      refine lv_iload_n hx hb dX0_sumOfLoans_4 rfl (lv_at hl 2 rfl) ?_
      refine lv_aload_n hx hb dX0_sumOfLoans_5 rfl (lv_at hl 0 rfl) ?_
      refine va_get (v := .int (nI n)) hx hb hts inTX0 hown hK hP (0) (bk_0) rfl 2 (by decide) (hts _ qf_X0_33) (fun _ h9 => h9) (congrArg (fun x => some (Value.int x)) (hz)) dX0_sumOfLoans_6 ?_
      refine lv_icmp_ge (tgt := 30) hx hb dX0_sumOfLoans_9 (by decide) (fun c2 => absurd c2 (nI_ge (a := i) (b := n) (by omega) (by omega))) (fun c2 => ?_)
      have c2 := z_lt c2
      refine lv_iload_n hx hb dX0_sumOfLoans_12 rfl (lv_at hl 1 rfl) ?_
      refine lv_aload_n hx hb dX0_sumOfLoans_13 rfl (lv_at hl 0 rfl) ?_
      refine va_get (v := .ref (ad 1)) hx hb hts inTX0 hown hK hP (0) (bk_0) rfl 0 (by decide) (hts _ qf_X0_11) (fun _ h9 => h9) (rfl) dX0_sumOfLoans_14 ?_
      refine lv_iload_n hx hb dX0_sumOfLoans_17 rfl (lv_at hl 2 rfl) ?_
      refine va_aldq hx hb hK hP (1) 2 (bk_1) rfl (vp_in_nI (show i < 8 by omega) (by omega)) dX0_sumOfLoans_18 ?_
      refine z_top (v2 := .ref (ad (3 + i))) (z_rf rfl) ?_
      refine va_get (v := .int (z (14 + 16 * i + 2))) hx hb hts inTX4 hown hK hP (3 + i) (bk_m (show i < 8 by omega)) rfl 4 (by decide) (hts _ qf_X0_58) (fun _ h9 => h9) (rfl) dX0_sumOfLoans_19 ?_
      refine lv_iadd hx hb dX0_sumOfLoans_22  ?_
      refine lv_istore_n (lv' := [(1, .int ((sumF z 2 i) + (z (14 + 16 * i + 2)))), (0, .ref (ad 0)), (2, .int (nI i))]) hx hb dX0_sumOfLoans_23 rfl hl (by decide) rfl (fun ls hl => ?_)
      refine lv_iinc (v := nI (i + 1)) (lv' := [(2, .int (nI (i + 1))), (1, .int ((sumF z 2 i) + (z (14 + 16 * i + 2)))), (0, .ref (ad 0))]) hx hb dX0_sumOfLoans_24 hl (k := 2) rfl (nI_1 _) (by decide) rfl (fun ls hl => ?_)
      refine lv_goto (tgt := 4) hx hb dX0_sumOfLoans_27 (by decide) ?_
      have hl := (congrArg (fun q => lv_has ls 3 [(2, .int (nI (i + 1))), (1, q), (0, .ref (ad 0))]) (show Value.int ((sumF z 2 i) + (z (14 + 16 * i + 2))) = .int (sumF z 2 (i + 1)) from congrArg Value.int (by first | rfl | (simp only [sumF, c2, not_true_eq_false, not_false_eq_true, and_self, and_true, true_and, and_false, false_and, or_true, true_or, or_false, false_or, if_true, if_false, ite_true, ite_false]; done) | (simp [sumF, c2]; done)))).mp hl
      exact ih4 (i + 1) (by omega) _ _ hP hD hS ls (lv_sub hl [2, 1, 0] rfl)
  have hl := (congrArg (fun q => lv_has ls 3 [(2, .int 0), (1, q), (0, .ref (ad 0))]) (show Value.int 0 = .int (sumF z 2 0) from congrArg Value.int (by rfl))).mp hl
  have hl := (congrArg (fun q => lv_has ls 3 [(2, q), (1, .int (sumF z 2 0)), (0, .ref (ad 0))]) (show Value.int 0 = .int (nI 0) from congrArg Value.int (by rfl))).mp hl
  exact K4 n 0 (by omega) _ _ hP hD hS ls (lv_sub hl [2, 1, 0] rfl)
set_option maxHeartbeats 4000000 in
set_option maxRecDepth 100000 in
theorem c_X0_countBallots {n : Nat} (hn : n ≤ 8) (hz : z 5 = nI n) (kd : Int32) : zM l D (zT cI cC cM cB cJ) yX0_countBallots cX0_countBallots 4 (some .int) ({ frames := 0, cells := 0, slots := 0, locals := 0 } : Room) [.ref (ad 0), .int kd] (bkW cI cM ad z wr) (bkW cI cM ad z wr) (some (.int (cntB z kd n))) 0 0 := by
  refine z_enter (by decide) (Nat.le_of_ble_eq_true rfl) ?_
  intro p e s m below meth c A S hr hlocks hnm hN hA hK hP hD hS ls hl
  obtain ⟨hx, hb, hml, hown, hts⟩ := id S
  have hl : lv_has ls 4 [(0, .ref (ad 0)), (1, .int kd)] := hl
  have hP : va_P D vwCl (bkW cI cM ad z wr) s.heap := hP
  have hD : va_D A (bkW cI cM ad z wr) := hD
  refine lv_iconst (v := 0) hx hb dX0_countBallots_0 (by decide) ?_
  refine lv_istore_n (lv' := [(2, .int 0), (0, .ref (ad 0)), (1, .int kd)]) hx hb dX0_countBallots_1 rfl hl (by decide) rfl (fun ls hl => ?_)
  refine lv_iconst (v := 0) hx hb dX0_countBallots_2 (by decide) ?_
  refine lv_istore_n (lv' := [(3, .int 0), (2, .int 0), (0, .ref (ad 0)), (1, .int kd)]) hx hb dX0_countBallots_3 rfl hl (by decide) rfl (fun ls hl => ?_)
  have K4 : ∀ (n4 i : Nat), i + n4 = n → ∀ (H : Heap) (locs : List Loc), va_P D vwCl (bkW cI cM ad z wr) H → va_D A (bkW cI cM ad z wr) → va_S A s.heap H locs → ∀ ls : Array Slot, lv_has ls 4 [(0, .ref (ad 0)), (1, .int kd), (2, .int (cntB z kd i)), (3, .int (nI i))] → W p l e ({ frames := 0, cells := 0, slots := 0, locals := 0 } : Room) s m ([.ref (ad 0), .int kd] : List Value).toArray below meth c H locs 0 0 (MQ below (zQ D (zT cI cC cM cB cJ) (bkW cI cM ad z wr) (some (.int (cntB z kd n))) A) ([.ref (ad 0), .int kd] : List Value).toArray s 0 0 A) (F0 m 4 ls []) := by
    intro n4
    induction n4 with
    | zero =>
      intro i hi H locs hP hD hS ls hl
      have ei : i = n := by omega
      refine lv_iload_n hx hb dX0_countBallots_4 rfl (lv_at hl 3 rfl) ?_
      refine lv_aload_n hx hb dX0_countBallots_5 rfl (lv_at hl 0 rfl) ?_
      refine va_get (v := .int (nI n)) hx hb hts inTX0 hown hK hP (0) (bk_0) rfl 2 (by decide) (hts _ qf_X0_33) (fun _ h9 => h9) (congrArg (fun x => some (Value.int x)) (hz)) dX0_countBallots_6 ?_
      refine lv_icmp_ge (tgt := 34) hx hb dX0_countBallots_9 (by decide) (fun c1 => ?_) (fun c1 => absurd (nI_le (a := n) (b := i) (by omega) (by omega)) c1)
      have c1 := z_nlt c1
      refine lv_iload_n hx hb dX0_countBallots_34 rfl (lv_at hl 2 rfl) ?_
      exact z_iret hx hb hr hlocks hP hD hK hS (rfl) (by first | rfl | (simp only [minP, maxP, c1, not_true_eq_false, not_false_eq_true, and_self, and_true, true_and, and_false, false_and, or_true, true_or, or_false, false_or, if_true, if_false, ite_true, ite_false]; done) | (simp [minP, maxP, c1]; done) | (simp_all [minP, maxP]; done)) dX0_countBallots_35
    | succ n4 ih4 =>
      intro i hi H locs hP hD hS ls hl
      have li : i < n := by omega
      refine lv_iload_n hx hb dX0_countBallots_4 rfl (lv_at hl 3 rfl) ?_
      refine lv_aload_n hx hb dX0_countBallots_5 rfl (lv_at hl 0 rfl) ?_
      refine va_get (v := .int (nI n)) hx hb hts inTX0 hown hK hP (0) (bk_0) rfl 2 (by decide) (hts _ qf_X0_33) (fun _ h9 => h9) (congrArg (fun x => some (Value.int x)) (hz)) dX0_countBallots_6 ?_
      refine lv_icmp_ge (tgt := 34) hx hb dX0_countBallots_9 (by decide) (fun c2 => absurd c2 (nI_ge (a := i) (b := n) (by omega) (by omega))) (fun c2 => ?_)
      have c2 := z_lt c2
      refine lv_aload_n hx hb dX0_countBallots_12 rfl (lv_at hl 0 rfl) ?_
      refine va_get (v := .ref (ad 1)) hx hb hts inTX0 hown hK hP (0) (bk_0) rfl 0 (by decide) (hts _ qf_X0_11) (fun _ h9 => h9) (rfl) dX0_countBallots_13 ?_
      refine lv_iload_n hx hb dX0_countBallots_16 rfl (lv_at hl 3 rfl) ?_
      refine va_aldq hx hb hK hP (1) 2 (bk_1) rfl (vp_in_nI (show i < 8 by omega) (by omega)) dX0_countBallots_17 ?_
      refine z_top (v2 := .ref (ad (3 + i))) (z_rf rfl) ?_
      refine va_get (v := .int (z (142 + i))) hx hb hts inTX4 hown hK hP (3 + i) (bk_m (show i < 8 by omega)) rfl 12 (by decide) (hts _ qf_X0_65) (fun _ h9 => h9) (rfl) dX0_countBallots_18 ?_
      refine lv_iload_n hx hb dX0_countBallots_21 rfl (lv_at hl 1 rfl) ?_
      refine lv_icmp_ne (tgt := 28) hx hb dX0_countBallots_22 (by decide) (fun c3 => ?_) (fun c3 => ?_)
      · skip
        refine lv_iinc (v := nI (i + 1)) (lv' := [(3, .int (nI (i + 1))), (0, .ref (ad 0)), (1, .int kd), (2, .int (cntB z kd i))]) hx hb dX0_countBallots_28 hl (k := 3) rfl (nI_1 _) (by decide) rfl (fun ls hl => ?_)
        refine lv_goto (tgt := 4) hx hb dX0_countBallots_31 (by decide) ?_
        have hl := (congrArg (fun q => lv_has ls 4 [(3, .int (nI (i + 1))), (0, .ref (ad 0)), (1, .int kd), (2, q)]) (show Value.int (cntB z kd i) = .int (cntB z kd (i + 1)) from congrArg Value.int (by first | rfl | (simp only [cntB, c2, c3, not_true_eq_false, not_false_eq_true, and_self, and_true, true_and, and_false, false_and, or_true, true_or, or_false, false_or, if_true, if_false, ite_true, ite_false]; done) | (simp [cntB, c2, c3]; done)))).mp hl
        exact ih4 (i + 1) (by omega) _ _ hP hD hS ls (lv_sub hl [1, 2, 3, 0] rfl)
      · skip
        refine lv_iinc (v := (cntB z kd i) + 1) (lv' := [(2, .int ((cntB z kd i) + 1)), (0, .ref (ad 0)), (1, .int kd), (3, .int (nI i))]) hx hb dX0_countBallots_25 hl (k := 2) rfl (by rfl) (by decide) rfl (fun ls hl => ?_)
        refine lv_iinc (v := nI (i + 1)) (lv' := [(3, .int (nI (i + 1))), (2, .int ((cntB z kd i) + 1)), (0, .ref (ad 0)), (1, .int kd)]) hx hb dX0_countBallots_28 hl (k := 3) rfl (nI_1 _) (by decide) rfl (fun ls hl => ?_)
        refine lv_goto (tgt := 4) hx hb dX0_countBallots_31 (by decide) ?_
        have hl := (congrArg (fun q => lv_has ls 4 [(3, .int (nI (i + 1))), (2, q), (0, .ref (ad 0)), (1, .int kd)]) (show Value.int ((cntB z kd i) + 1) = .int (cntB z kd (i + 1)) from congrArg Value.int (by first | rfl | (simp only [cntB, c2, c3, not_true_eq_false, not_false_eq_true, and_self, and_true, true_and, and_false, false_and, or_true, true_or, or_false, false_or, if_true, if_false, ite_true, ite_false]; done) | (simp [cntB, c2, c3]; done)))).mp hl
        exact ih4 (i + 1) (by omega) _ _ hP hD hS ls (lv_sub hl [2, 3, 1, 0] rfl)
  have hl := (congrArg (fun q => lv_has ls 4 [(3, .int 0), (2, q), (0, .ref (ad 0)), (1, .int kd)]) (show Value.int 0 = .int (cntB z kd 0) from congrArg Value.int (by rfl))).mp hl
  have hl := (congrArg (fun q => lv_has ls 4 [(3, q), (2, .int (cntB z kd 0)), (0, .ref (ad 0)), (1, .int kd)]) (show Value.int 0 = .int (nI 0) from congrArg Value.int (by rfl))).mp hl
  exact K4 n 0 (by omega) _ _ hP hD hS ls (lv_sub hl [2, 3, 1, 0] rfl)
set_option maxHeartbeats 4000000 in
set_option maxRecDepth 100000 in
theorem c_X0_countVoters {n : Nat} (hn : n ≤ 8) (hz : z 5 = nI n) : zM l D (zT cI cC cM cB cJ) yX0_countVoters cX0_countVoters 1 (some .int) ({ frames := 1, cells := 0, slots := 0, locals := 22 } : Room) [.ref (ad 0)] (bkW cI cM ad z wr) (bkW cI cM ad z wr) (some (.int (cntT z n - 1))) 0 0 := by
  refine z_enter (by decide) (Nat.le_of_ble_eq_true rfl) ?_
  intro p e s m below meth c A S hr hlocks hnm hN hA hK hP hD hS ls hl
  obtain ⟨hx, hb, hml, hown, hts⟩ := id S
  have hl : lv_has ls 1 [(0, .ref (ad 0))] := hl
  have hP : va_P D vwCl (bkW cI cM ad z wr) s.heap := hP
  have hD : va_D A (bkW cI cM ad z wr) := hD
  refine lv_aload_n hx hb dX0_countVoters_0 rfl (lv_at hl 0 rfl) ?_
  refine z_callV1 (rest := []) S (c_X0_countThere (n := n) (show n ≤ 8 by omega) (hz)) qm_X0_150 v_X0_countThere ⟨Nat.le_of_ble_eq_true rfl, Nat.le_of_ble_eq_true rfl⟩ rfl rfl hN hK hP hD hS hA (0) (bk_0) rfl rfl hl.1 rfl (Nat.le_of_ble_eq_true rfl) dX0_countVoters_1 ⟨Nat.le_of_ble_eq_true rfl, Nat.le_of_ble_eq_true rfl⟩ (fun H locs hP hD hS => ?_)
  refine lv_iconst (v := 1) hx hb dX0_countVoters_4 (by decide) ?_
  refine lv_isub hx hb dX0_countVoters_5  ?_
  exact z_iret hx hb hr hlocks hP hD hK hS (rfl) (by first | rfl | (simp only [minP, maxP, not_true_eq_false, not_false_eq_true, and_self, and_true, true_and, and_false, false_and, or_true, true_or, or_false, false_or, if_true, if_false, ite_true, ite_false]; done) | (simp [minP, maxP]; done) | (simp_all [minP, maxP]; done)) dX0_countVoters_6
set_option maxHeartbeats 4000000 in
set_option maxRecDepth 100000 in
theorem c_X0_missingVotes {n : Nat} (hn : n ≤ 8) (hz : z 5 = nI n) : zM l D (zT cI cC cM cB cJ) yX0_missingVotes cX0_missingVotes 1 (some .int) ({ frames := 2, cells := 0, slots := 0, locals := 42 } : Room) [.ref (ad 0)] (bkW cI cM ad z wr) (bkW cI cM ad z wr) (some (.int (misP z n))) 0 0 := by
  refine z_enter (by decide) (Nat.le_of_ble_eq_true rfl) ?_
  intro p e s m below meth c A S hr hlocks hnm hN hA hK hP hD hS ls hl
  obtain ⟨hx, hb, hml, hown, hts⟩ := id S
  have hl : lv_has ls 1 [(0, .ref (ad 0))] := hl
  have hP : va_P D vwCl (bkW cI cM ad z wr) s.heap := hP
  have hD : va_D A (bkW cI cM ad z wr) := hD
  refine lv_aload_n hx hb dX0_missingVotes_0 rfl (lv_at hl 0 rfl) ?_
  refine z_callV1 (rest := []) S (c_X0_hasMotion ) qm_X0_71 v_X0_hasMotion ⟨Nat.le_of_ble_eq_true rfl, Nat.le_of_ble_eq_true rfl⟩ rfl rfl hN hK hP hD hS hA (0) (bk_0) rfl rfl hl.1 rfl (Nat.le_of_ble_eq_true rfl) dX0_missingVotes_1 ⟨Nat.le_of_ble_eq_true rfl, Nat.le_of_ble_eq_true rfl⟩ (fun H locs hP hD hS => ?_)
  refine lv_if_eq (tgt := 24) hx hb dX0_missingVotes_4 (by decide) (fun c1 => ?_) (fun c1 => ?_)
  · have c1 := bI_0n c1
    refine lv_iconst (v := (-1)) hx hb dX0_missingVotes_24 (by decide) ?_
    exact z_iret hx hb hr hlocks hP hD hK hS (rfl) (by first | rfl | (simp only [misP, minP, maxP, c1, not_true_eq_false, not_false_eq_true, and_self, and_true, true_and, and_false, false_and, or_true, true_or, or_false, false_or, if_true, if_false, ite_true, ite_false]; done) | (simp [misP, minP, maxP, c1]; done) | (simp_all [misP, minP, maxP]; done)) dX0_missingVotes_25
  · have c1 := bI_1 c1
    refine lv_aload_n hx hb dX0_missingVotes_7 rfl (lv_at hl 0 rfl) ?_
    refine z_callV1 (rest := []) S (c_X0_countVoters (n := n) (show n ≤ 8 by omega) (hz)) qm_X0_153 v_X0_countVoters ⟨Nat.le_of_ble_eq_true rfl, Nat.le_of_ble_eq_true rfl⟩ rfl rfl hN hK hP hD hS hA (0) (bk_0) rfl rfl hl.1 rfl (Nat.le_of_ble_eq_true rfl) dX0_missingVotes_8 ⟨Nat.le_of_ble_eq_true rfl, Nat.le_of_ble_eq_true rfl⟩ (fun H locs hP hD hS => ?_)
    refine lv_iconst (v := 2) hx hb dX0_missingVotes_11 (by decide) ?_
    refine lv_idiv hx hb dX0_missingVotes_12 (by decide) ?_
    refine lv_iconst (v := 1) hx hb dX0_missingVotes_13 (by decide) ?_
    refine lv_iadd hx hb dX0_missingVotes_14  ?_
    refine lv_aload_n hx hb dX0_missingVotes_15 rfl (lv_at hl 0 rfl) ?_
    refine lv_iconst (v := 1) hx hb dX0_missingVotes_16 (by decide) ?_
    refine z_callV1 (rest := [.int (((cntT z n - 1) / 2) + 1)]) S (c_X0_countBallots (n := n) (show n ≤ 8 by omega) (hz) 1) qm_X0_156 v_X0_countBallots ⟨Nat.le_of_ble_eq_true rfl, Nat.le_of_ble_eq_true rfl⟩ rfl rfl hN hK hP hD hS hA (0) (bk_0) rfl rfl hl.1 rfl (Nat.le_of_ble_eq_true rfl) dX0_missingVotes_17 ⟨Nat.le_of_ble_eq_true rfl, Nat.le_of_ble_eq_true rfl⟩ (fun H locs hP hD hS => ?_)
    refine lv_isub hx hb dX0_missingVotes_20  ?_
    refine lv_goto (tgt := 25) hx hb dX0_missingVotes_21 (by decide) ?_
    exact z_iret hx hb hr hlocks hP hD hK hS (rfl) (by first | rfl | (simp only [misP, minP, maxP, c1, not_true_eq_false, not_false_eq_true, and_self, and_true, true_and, and_false, false_and, or_true, true_or, or_false, false_or, if_true, if_false, ite_true, ite_false]; done) | (simp [misP, minP, maxP, c1]; done) | (simp_all [misP, minP, maxP]; done)) dX0_missingVotes_25
set_option maxHeartbeats 4000000 in
set_option maxRecDepth 100000 in
theorem c_X0_dropMotion {n : Nat} (hn : n ≤ 8) (hz : z 5 = nI n) : zM l D (zT cI cC cM cB cJ) yX0_dropMotion cX0_dropMotion 2 none ({ frames := 0, cells := 0, slots := 0, locals := 0 } : Room) [.ref (ad 0)] (bkW cI cM ad z wr) (bkW cI cM ad (dropZ z n) wr) none 0 0 := by
  refine z_enter (by decide) (Nat.le_of_ble_eq_true rfl) ?_
  intro p e s m below meth c A S hr hlocks hnm hN hA hK hP hD hS ls hl
  obtain ⟨hx, hb, hml, hown, hts⟩ := id S
  have hl : lv_has ls 2 [(0, .ref (ad 0))] := hl
  have hP : va_P D vwCl (bkW cI cM ad z wr) s.heap := hP
  have hD : va_D A (bkW cI cM ad z wr) := hD
  refine lv_aload_n hx hb dX0_dropMotion_0 rfl (lv_at hl 0 rfl) ?_
  refine lv_iconst (v := (-1)) hx hb dX0_dropMotion_1 (by decide) ?_
  refine z_put (v := .int (-1)) (ty := .int) (ws2 := bkW cI cM ad (upd z 10 (-1)) wr) hx hb hts inTX0 tyX0 tyX0_ok nmX0 hown hK hP hD hS (0) (bk_0) rfl 7 (by decide) (hts _ qf_X0_25) (fun _ h9 => h9) rfl (by decide +kernel) (rfl) (rfl) (Nat.le_of_ble_eq_true rfl) dX0_dropMotion_2 (bk_w0 _ (by decide) (by decide) bfs_s7) (fun H locs hP hD hS => ?_)
  refine lv_aload_n hx hb dX0_dropMotion_5 rfl (lv_at hl 0 rfl) ?_
  refine lv_iconst (v := 0) hx hb dX0_dropMotion_6 (by decide) ?_
  refine z_put (v := .int 0) (ty := .int) (ws2 := bkW cI cM ad (upd (upd z 10 (-1)) 11 0) wr) hx hb hts inTX0 tyX0 tyX0_ok nmX0 hown hK hP hD hS (0) (bk_0) rfl 8 (by decide) (hts _ qf_X0_48) (fun _ h9 => h9) rfl (by decide +kernel) (rfl) (rfl) (Nat.le_of_ble_eq_true rfl) dX0_dropMotion_7 (bk_w0 _ (by decide) (by decide) bfs_s8) (fun H locs hP hD hS => ?_)
  refine lv_iconst (v := 0) hx hb dX0_dropMotion_10 (by decide) ?_
  refine lv_istore_n (lv' := [(1, .int 0), (0, .ref (ad 0))]) hx hb dX0_dropMotion_11 rfl hl (by decide) rfl (fun ls hl => ?_)
  have K12 : ∀ (n12 i : Nat), i + n12 = n → ∀ (H : Heap) (locs : List Loc), va_P D vwCl (bkW cI cM ad (clrB (upd (upd z 10 (-1)) 11 0) i) wr) H → va_D A (bkW cI cM ad (clrB (upd (upd z 10 (-1)) 11 0) i) wr) → va_S A s.heap H locs → ∀ ls : Array Slot, lv_has ls 2 [(0, .ref (ad 0)), (1, .int (nI i))] → W p l e ({ frames := 0, cells := 0, slots := 0, locals := 0 } : Room) s m ([.ref (ad 0)] : List Value).toArray below meth c H locs 0 0 (MQ below (zQ D (zT cI cC cM cB cJ) (bkW cI cM ad (dropZ z n) wr) none A) ([.ref (ad 0)] : List Value).toArray s 0 0 A) (F0 m 12 ls []) := by
    intro n12
    induction n12 with
    | zero =>
      intro i hi H locs hP hD hS ls hl
      have ei : i = n := by omega
      refine lv_iload_n hx hb dX0_dropMotion_12 rfl (lv_at hl 1 rfl) ?_
      refine lv_aload_n hx hb dX0_dropMotion_13 rfl (lv_at hl 0 rfl) ?_
      refine va_get (v := .int (nI n)) hx hb hts inTX0 hown hK hP (0) (bk_0) rfl 2 (by decide) (hts _ qf_X0_33) (fun _ h9 => h9) (congrArg (fun x => some (Value.int x)) ((clrB_at _ (by omega)).trans (((upd_ne (by decide)).trans (upd_ne (by decide))).trans hz))) dX0_dropMotion_14 ?_
      refine lv_icmp_ge (tgt := 36) hx hb dX0_dropMotion_17 (by decide) (fun c1 => ?_) (fun c1 => absurd (nI_le (a := n) (b := i) (by omega) (by omega)) c1)
      have c1 := z_nlt c1
      exact z_vret hx hb hr hlocks hP hD hK hS (by first | rfl | (simp only [dropZ, minP, maxP, c1, not_true_eq_false, not_false_eq_true, and_self, and_true, true_and, and_false, false_and, or_true, true_or, or_false, false_or, if_true, if_false, ite_true, ite_false]; done) | (simp [dropZ, minP, maxP, c1]; done) | (simp_all [dropZ, minP, maxP]; done)) (rfl) dX0_dropMotion_36
    | succ n12 ih12 =>
      intro i hi H locs hP hD hS ls hl
      have li : i < n := by omega
      refine lv_iload_n hx hb dX0_dropMotion_12 rfl (lv_at hl 1 rfl) ?_
      refine lv_aload_n hx hb dX0_dropMotion_13 rfl (lv_at hl 0 rfl) ?_
      refine va_get (v := .int (nI n)) hx hb hts inTX0 hown hK hP (0) (bk_0) rfl 2 (by decide) (hts _ qf_X0_33) (fun _ h9 => h9) (congrArg (fun x => some (Value.int x)) ((clrB_at _ (by omega)).trans (((upd_ne (by decide)).trans (upd_ne (by decide))).trans hz))) dX0_dropMotion_14 ?_
      refine lv_icmp_ge (tgt := 36) hx hb dX0_dropMotion_17 (by decide) (fun c2 => absurd c2 (nI_ge (a := i) (b := n) (by omega) (by omega))) (fun c2 => ?_)
      have c2 := z_lt c2
      refine lv_aload_n hx hb dX0_dropMotion_20 rfl (lv_at hl 0 rfl) ?_
      refine va_get (v := .ref (ad 1)) hx hb hts inTX0 hown hK hP (0) (bk_0) rfl 0 (by decide) (hts _ qf_X0_11) (fun _ h9 => h9) (rfl) dX0_dropMotion_21 ?_
      refine lv_iload_n hx hb dX0_dropMotion_24 rfl (lv_at hl 1 rfl) ?_
      refine va_aldq hx hb hK hP (1) 2 (bk_1) rfl (vp_in_nI (show i < 8 by omega) (by omega)) dX0_dropMotion_25 ?_
      refine z_top (v2 := .ref (ad (3 + i))) (z_rf rfl) ?_
      refine lv_iconst (v := 0) hx hb dX0_dropMotion_26 (by decide) ?_
      refine z_put (v := .int 0) (ty := .int) (ws2 := bkW cI cM ad (upd (clrB (upd (upd z 10 (-1)) 11 0) i) (142 + i) 0) wr) hx hb hts inTX4 tyX4 tyX4_ok nmX4 hown hK hP hD hS (3 + i) (bk_m (show i < 8 by omega)) rfl 12 (by decide) (hts _ qf_X0_65) (fun _ h9 => h9) rfl (by decide +kernel) (rfl) (rfl) (Nat.le_of_ble_eq_true rfl) dX0_dropMotion_27 (bk_wm _ (show i < 8 by omega) (by omega) (mfs_s12 (show i < 8 by omega))) (fun H locs hP hD hS => ?_)
      refine lv_iinc (v := nI (i + 1)) (lv' := [(1, .int (nI (i + 1))), (0, .ref (ad 0))]) hx hb dX0_dropMotion_30 hl (k := 1) rfl (nI_1 _) (by decide) rfl (fun ls hl => ?_)
      refine lv_goto (tgt := 12) hx hb dX0_dropMotion_33 (by decide) ?_
      have hP := va_P_eq (w2 := bkW cI cM ad (clrB (upd (upd z 10 (-1)) 11 0) (i + 1)) wr) (by first | rfl | (simp only [clrB, c2, not_true_eq_false, not_false_eq_true, and_self, and_true, true_and, and_false, false_and, or_true, true_or, or_false, false_or, if_true, if_false, ite_true, ite_false]; done) | (simp [clrB, c2]; done)) hP
      have hD := va_D_eq (w2 := bkW cI cM ad (clrB (upd (upd z 10 (-1)) 11 0) (i + 1)) wr) (by first | rfl | (simp only [clrB, c2, not_true_eq_false, not_false_eq_true, and_self, and_true, true_and, and_false, false_and, or_true, true_or, or_false, false_or, if_true, if_false, ite_true, ite_false]; done) | (simp [clrB, c2]; done)) hD
      exact ih12 (i + 1) (by omega) _ _ hP hD hS ls (lv_sub hl [1, 0] rfl)
  have hl := (congrArg (fun q => lv_has ls 2 [(1, q), (0, .ref (ad 0))]) (show Value.int 0 = .int (nI 0) from congrArg Value.int (by rfl))).mp hl
  have hP := va_P_eq (w2 := bkW cI cM ad (clrB (upd (upd z 10 (-1)) 11 0) 0) wr) (rfl) hP
  have hD := va_D_eq (w2 := bkW cI cM ad (clrB (upd (upd z 10 (-1)) 11 0) 0) wr) (rfl) hD
  exact K12 n 0 (by omega) _ _ hP hD hS ls (lv_sub hl [1, 0] rfl)
end XB
