/-! The buffer: its signs, how many, and the reader's row (place, giver, taker, skill, minutes). -/
def rfs (r : Nat → Int32) : List Value := [.int (r 0), .int (r 1), .int (r 2), .int (r 3), .int (r 4)]
def txW (cC : ClassId) (t : Nat → Nat) (sg : Nat → Int32) (sz : Int32) (r : Nat → Int32) (wr : va_W) : va_W := (t 0, .inr (2, [.ref (t 1), .ref (t 2), .int sz])) :: (t 1, .inl (cC, 60, .inl sg)) :: (t 2, .inr (1, rfs r)) :: wr
section TX
variable {cC : ClassId} {t : Nat → Nat} {sg : Nat → Int32} {sz : Int32} {r : Nat → Int32} {wr : va_W} {k : Nat}
theorem tx_0 : (txW cC t sg sz r wr)[0]? = some (t 0, .inr (2, [.ref (t 1), .ref (t 2), .int sz])) := rfl
theorem tx_1 : (txW cC t sg sz r wr)[1]? = some (t 1, .inl (cC, 60, .inl sg)) := rfl
theorem tx_2 : (txW cC t sg sz r wr)[2]? = some (t 2, .inr (1, rfs r)) := rfl
theorem tx_r : (txW cC t sg sz r wr)[3 + k]? = wr[k]? := by
  rw [show 3 + k = k + 1 + 1 + 1 by omega]; rfl
theorem tx_rs {x : Nat × va_E} : (txW cC t sg sz r wr).set (3 + k) x = txW cC t sg sz r (wr.set k x) := by
  rw [show 3 + k = k + 1 + 1 + 1 by omega]; rfl
theorem tx_w2 {i : Nat} {v : Int32} (fs : List Value) (hfs : fs = rfs (upd r i v)) : (txW cC t sg sz r wr).set 2 (t 2, .inr (1, fs)) = txW cC t sg sz (upd r i v) wr := by
  subst hfs; rfl
theorem tx_w1 {i : Int32} {v : Int32} (hi : i = nI k) (hk : k < 2 ^ 31) (hn : vp_nar .char v = v) : (txW cC t sg sz r wr).set 1 (t 1, .inl (cC, 60, .inl (upd sg i.toNatClampNeg (vp_nar .char v)))) = txW cC t (upd sg k v) sz r wr := by
  rw [hi, nI_clamp hk, hn]; rfl
theorem z_cl {i : Int32} (hi : i = nI k) (hk : k < 2 ^ 31 := by omega) : i.toNatClampNeg = k := by rw [hi, nI_clamp hk]
end TX
abbrev inP (v a b : Int32) : Prop := ¬ (v < a) ∧ ¬ (b < v)
abbrev whP (r : Nat → Int32) : Prop := r 0 = 5 ∧ 0 < r 4
def tkV (r : Nat → Int32) (x : Int32) : Int32 :=
  if r 0 = 0 then bI (inP (x - 97) 0 7) else if r 0 = 1 then bI (x = 62) else if r 0 = 2 then bI (inP (x - 97) 0 7 ∧ ¬ (x - 97 = r 1)) else if r 0 = 3 then bI (inP (x - 48) 0 4) else if r 0 = 4 then bI (x = 58)
  else if x = 59 then bI (whP r) else bI (inP (x - 48) 0 9 ∧ inP (r 4 * 10 + (x - 48)) 1 600)
def rstR (r : Nat → Int32) : Nat → Int32 := upd (upd r 0 0) 4 0
def tkR (r : Nat → Int32) (x : Int32) : Nat → Int32 :=
  if r 0 = 0 then (if inP (x - 97) 0 7 then upd (upd r 1 (x - 97)) 0 1 else r) else if r 0 = 1 then (if x = 62 then upd r 0 (r 0 + 1) else r) else if r 0 = 2 then (if inP (x - 97) 0 7 ∧ ¬ (x - 97 = r 1) then upd (upd r 2 (x - 97)) 0 3 else r) else if r 0 = 3 then (if inP (x - 48) 0 4 then upd (upd r 3 (x - 48)) 0 4 else r) else if r 0 = 4 then (if x = 58 then upd r 0 (r 0 + 1) else r)
  else if x = 59 then (if whP r then rstR r else r) else (if inP (x - 48) 0 9 ∧ inP (r 4 * 10 + (x - 48)) 1 600 then upd r 4 (r 4 * 10 + (x - 48)) else r)
theorem tkV_01 (r : Nat → Int32) (x : Int32) : narrow .boolean (.int (tkV r x)) = .int (tkV r x) := by
  unfold tkV
  split <;> first | exact bI_nr _ | (split <;> first | exact bI_nr _ | (split <;> first | exact bI_nr _ | (split <;> first | exact bI_nr _ | (split <;> first | exact bI_nr _ | (split <;> exact bI_nr _)))))
def frR (sg : Nat → Int32) (r : Nat → Int32) : Nat → Nat → Int32
  | 0 => rstR r
  | i + 1 => tkR (frR sg r i) (sg i)
/-- from the row r on, at i, with m signs left: where it stops, and the row then -/
def feN (sg : Nat → Int32) : (Nat → Int32) → Nat → Nat → Nat
  | _, i, 0 => i
  | r, i, m + 1 => if tkV r (sg i) = 0 then i else feN sg (tkR r (sg i)) (i + 1) m
def feR (sg : Nat → Int32) : (Nat → Int32) → Nat → Nat → Nat → Int32
  | r, _, 0 => r
  | r, i, m + 1 => if tkV r (sg i) = 0 then tkR r (sg i) else feR sg (tkR r (sg i)) (i + 1) m
theorem feN_le (sg : Nat → Int32) : ∀ (m : Nat) (r : Nat → Int32) (i : Nat), feN sg r i m ≤ i + m
  | 0, _, _ => Nat.le_refl _
  | m + 1, r, i => by
    rw [feN]
    split
    · omega
    · have := feN_le sg m (tkR r (sg i)) (i + 1); omega
def whlP (sg r : Nat → Int32) (n : Nat) : Prop := feN sg (rstR r) 0 n = n ∧ whP (feR sg (rstR r) 0 n)
theorem z_cases4 (x : Int32) : x = 0 ∨ x = 1 ∨ x = 2 ∨ x = 3 ∨ x = 4 ∨ (x.toInt < 0 ∨ 4 < x.toInt) := by
  rcases z_cases10 x with h | h | h | h | h | h | h | h | h | h | h | h
  · simp [h]
  · simp [h]
  · simp [h]
  · simp [h]
  · simp [h]
  · exact Or.inr (Or.inr (Or.inr (Or.inr (Or.inr (Or.inr (by rw [h]; decide))))))
  · exact Or.inr (Or.inr (Or.inr (Or.inr (Or.inr (Or.inr (by rw [h]; decide))))))
  · exact Or.inr (Or.inr (Or.inr (Or.inr (Or.inr (Or.inr (by rw [h]; decide))))))
  · exact Or.inr (Or.inr (Or.inr (Or.inr (Or.inr (Or.inr (by rw [h]; decide))))))
  · exact Or.inr (Or.inr (Or.inr (Or.inr (Or.inr (Or.inr (by rw [h]; decide))))))
  · exact Or.inr (Or.inr (Or.inr (Or.inr (Or.inr (Or.inr (by rw [h]; decide))))))
  · exact Or.inr (Or.inr (Or.inr (Or.inr (Or.inr (by omega)))))
theorem z_out4 {x : Int32} (h : x.toInt < 0 ∨ 4 < x.toInt) : ¬ x = 0 ∧ ¬ x = 1 ∧ ¬ x = 2 ∧ ¬ x = 3 ∧ ¬ x = 4 := by
  refine ⟨?_, ?_, ?_, ?_, ?_⟩ <;> (intro q; rw [q] at h; revert h; decide)
theorem rfs_s0 {r : Nat → Int32} {v : Int32} : (rfs r).set 0 (.int v) = rfs (upd r 0 v) := by simp [rfs, upd]
theorem rfs_s1 {r : Nat → Int32} {v : Int32} : (rfs r).set 1 (.int v) = rfs (upd r 1 v) := by simp [rfs, upd]
theorem rfs_s2 {r : Nat → Int32} {v : Int32} : (rfs r).set 2 (.int v) = rfs (upd r 2 v) := by simp [rfs, upd]
theorem rfs_s3 {r : Nat → Int32} {v : Int32} : (rfs r).set 3 (.int v) = rfs (upd r 3 v) := by simp [rfs, upd]
theorem rfs_s4 {r : Nat → Int32} {v : Int32} : (rfs r).set 4 (.int v) = rfs (upd r 4 v) := by simp [rfs, upd]
theorem fe_inv {sg r : Nat → Int32} {m i : Nat} (h : feN sg (rstR r) 0 m = feN sg (frR sg r i) i (m - i) ∧ feR sg (rstR r) 0 m = feR sg (frR sg r i) i (m - i)) (li : i < m) (c : ¬ tkV (frR sg r i) (sg i) = 0) : feN sg (rstR r) 0 m = feN sg (frR sg r (i + 1)) (i + 1) (m - (i + 1)) ∧ feR sg (rstR r) 0 m = feR sg (frR sg r (i + 1)) (i + 1) (m - (i + 1)) := by
  rw [h.1, h.2, show m - i = (m - (i + 1)) + 1 by omega, feN, feR, if_neg c, if_neg c]
  exact ⟨rfl, rfl⟩
theorem fe_stop {sg r : Nat → Int32} {m i : Nat} (h : feN sg (rstR r) 0 m = feN sg (frR sg r i) i (m - i) ∧ feR sg (rstR r) 0 m = feR sg (frR sg r i) i (m - i)) (li : i < m) (c : tkV (frR sg r i) (sg i) = 0) : feN sg (rstR r) 0 m = i ∧ feR sg (rstR r) 0 m = tkR (frR sg r i) (sg i) := by
  rw [h.1, h.2, show m - i = (m - (i + 1)) + 1 by omega, feN, feR, if_pos c, if_pos c]
  exact ⟨rfl, rfl⟩
theorem fe_end {sg r : Nat → Int32} {m : Nat} (h : feN sg (rstR r) 0 m = feN sg (frR sg r m) m (m - m) ∧ feR sg (rstR r) 0 m = feR sg (frR sg r m) m (m - m)) : feN sg (rstR r) 0 m = m ∧ feR sg (rstR r) 0 m = frR sg r m := by
  rw [h.1, h.2, Nat.sub_self]
  exact ⟨rfl, rfl⟩

section XB
variable {l : Launch} {D : va_G} {cI cC cM cB cJ : ClassId} {ad ad2 : Nat → Nat} {z z2 : Nat → Int32} {wr : va_W}
set_option maxHeartbeats 4000000 in
set_option maxRecDepth 100000 in
theorem c_X1_restart {t : Nat → Nat} {sg : Nat → Int32} {sz : Int32} {r : Nat → Int32} : zM l D (zT cI cC cM cB cJ) yX1_restart cX1_restart 1 none ({ frames := 0, cells := 0, slots := 0, locals := 0 } : Room) [.ref (t 2)] (bkW cI cM ad z (txW cC t sg sz r wr)) (bkW cI cM ad z (txW cC t sg sz (rstR r) wr)) none 0 0 := by
  refine z_enter (by decide) (Nat.le_of_ble_eq_true rfl) ?_
  intro p e s m below meth c A S hr hlocks hnm hN hA hK hP hD hS ls hl
  obtain ⟨hx, hb, hml, hown, hts⟩ := id S
  have hl : lv_has ls 1 [(0, .ref (t 2))] := hl
  have hP : va_P D vwCl (bkW cI cM ad z (txW cC t sg sz r wr)) s.heap := hP
  have hD : va_D A (bkW cI cM ad z (txW cC t sg sz r wr)) := hD
  refine lv_aload_n hx hb dX1_restart_0 rfl (lv_at hl 0 rfl) ?_
  refine lv_iconst (v := 0) hx hb dX1_restart_1 (by decide) ?_
  refine z_put (v := .int 0) (ty := .int) (ws2 := bkW cI cM ad z (txW cC t sg sz (upd r 0 0) wr)) hx hb hts inTX1 tyX1 tyX1_ok nmX1 hown hK hP hD hS (19 + (2)) ((bk_r).trans (tx_2)) rfl 0 (by decide) (hts _ qf_X1_11) (fun _ h9 => h9) rfl (by decide +kernel) (rfl) (rfl) (Nat.le_of_ble_eq_true rfl) dX1_restart_2 ((bk_rs).trans (congrArg (fun w_ => bkW cI cM ad z w_) (tx_w2 _ rfs_s0))) (fun H locs hP hD hS => ?_)
  refine lv_aload_n hx hb dX1_restart_5 rfl (lv_at hl 0 rfl) ?_
  refine lv_iconst (v := 0) hx hb dX1_restart_6 (by decide) ?_
  refine z_put (v := .int 0) (ty := .int) (ws2 := bkW cI cM ad z (txW cC t sg sz (upd (upd r 0 0) 4 0) wr)) hx hb hts inTX1 tyX1 tyX1_ok nmX1 hown hK hP hD hS (19 + (2)) ((bk_r).trans (tx_2)) rfl 4 (by decide) (hts _ qf_X1_15) (fun _ h9 => h9) rfl (by decide +kernel) (rfl) (rfl) (Nat.le_of_ble_eq_true rfl) dX1_restart_7 ((bk_rs).trans (congrArg (fun w_ => bkW cI cM ad z w_) (tx_w2 _ rfs_s4))) (fun H locs hP hD hS => ?_)
  exact z_vret hx hb hr hlocks hP hD hK hS (by first | rfl | (simp only [rstR, minP, maxP, not_true_eq_false, not_false_eq_true, and_self, and_true, true_and, and_false, false_and, or_true, true_or, or_false, false_or, if_true, if_false, ite_true, ite_false]; done) | (simp [rstR, minP, maxP]; done) | (simp_all [rstR, minP, maxP]; done)) (rfl) dX1_restart_10
set_option maxHeartbeats 4000000 in
set_option maxRecDepth 100000 in
theorem c_X1_isDealWhole {t : Nat → Nat} {sg : Nat → Int32} {sz : Int32} {r : Nat → Int32} : zM l D (zT cI cC cM cB cJ) yX1_isDealWhole cX1_isDealWhole 1 (some .boolean) ({ frames := 0, cells := 0, slots := 0, locals := 0 } : Room) [.ref (t 2)] (bkW cI cM ad z (txW cC t sg sz r wr)) (bkW cI cM ad z (txW cC t sg sz r wr)) (some (.int (bI (whP r)))) 0 0 := by
  refine z_enter (by decide) (Nat.le_of_ble_eq_true rfl) ?_
  intro p e s m below meth c A S hr hlocks hnm hN hA hK hP hD hS ls hl
  obtain ⟨hx, hb, hml, hown, hts⟩ := id S
  have hl : lv_has ls 1 [(0, .ref (t 2))] := hl
  have hP : va_P D vwCl (bkW cI cM ad z (txW cC t sg sz r wr)) s.heap := hP
  have hD : va_D A (bkW cI cM ad z (txW cC t sg sz r wr)) := hD
  refine lv_aload_n hx hb dX1_isDealWhole_0 rfl (lv_at hl 0 rfl) ?_
  refine va_get (v := .int (r 0)) hx hb hts inTX1 hown hK hP (19 + (2)) ((bk_r).trans (tx_2)) rfl 0 (by decide) (hts _ qf_X1_11) (fun _ h9 => h9) (rfl) dX1_isDealWhole_1 ?_
  refine lv_iconst (v := 5) hx hb dX1_isDealWhole_4 (by decide) ?_
  refine lv_icmp_ne (tgt := 19) hx hb dX1_isDealWhole_5 (by decide) (fun c1 => ?_) (fun c1 => ?_)
  · skip
    refine lv_iconst (v := 0) hx hb dX1_isDealWhole_19 (by decide) ?_
    exact z_zret hx hb hr hlocks hP hD hK hS (rfl) (by first | rfl | (simp only [bI, whP, minP, maxP, c1, not_true_eq_false, not_false_eq_true, and_self, and_true, true_and, and_false, false_and, or_true, true_or, or_false, false_or, if_true, if_false, ite_true, ite_false]; done) | (simp [bI, whP, minP, maxP, c1]; done) | (simp_all [bI, whP, minP, maxP]; done)) rfl dX1_isDealWhole_20
  · skip
    refine lv_aload_n hx hb dX1_isDealWhole_8 rfl (lv_at hl 0 rfl) ?_
    refine va_get (v := .int (r 4)) hx hb hts inTX1 hown hK hP (19 + (2)) ((bk_r).trans (tx_2)) rfl 4 (by decide) (hts _ qf_X1_15) (fun _ h9 => h9) (rfl) dX1_isDealWhole_9 ?_
    refine lv_if_le (tgt := 19) hx hb dX1_isDealWhole_12 (by decide) (fun c2 => ?_) (fun c2 => ?_)
    · have c2 := z_nlt c2
      refine lv_iconst (v := 0) hx hb dX1_isDealWhole_19 (by decide) ?_
      exact z_zret hx hb hr hlocks hP hD hK hS (rfl) (by first | rfl | (simp only [bI, whP, minP, maxP, c1, c2, not_true_eq_false, not_false_eq_true, and_self, and_true, true_and, and_false, false_and, or_true, true_or, or_false, false_or, if_true, if_false, ite_true, ite_false]; done) | (simp [bI, whP, minP, maxP, c1, c2]; done) | (simp_all [bI, whP, minP, maxP]; done)) rfl dX1_isDealWhole_20
    · have c2 := z_lt c2
      refine lv_iconst (v := 1) hx hb dX1_isDealWhole_15 (by decide) ?_
      refine lv_goto (tgt := 20) hx hb dX1_isDealWhole_16 (by decide) ?_
      exact z_zret hx hb hr hlocks hP hD hK hS (rfl) (by first | rfl | (simp only [bI, whP, minP, maxP, c1, c2, not_true_eq_false, not_false_eq_true, and_self, and_true, true_and, and_false, false_and, or_true, true_or, or_false, false_or, if_true, if_false, ite_true, ite_false]; done) | (simp [bI, whP, minP, maxP, c1, c2]; done) | (simp_all [bI, whP, minP, maxP]; done)) rfl dX1_isDealWhole_20
set_option maxHeartbeats 4000000 in
set_option maxRecDepth 100000 in
theorem c_X1_takesGiver {t : Nat → Nat} {sg : Nat → Int32} {sz : Int32} {r : Nat → Int32} (x : Int32) : zM l D (zT cI cC cM cB cJ) yX1_takesGiver cX1_takesGiver 2 (some .boolean) ({ frames := 1, cells := 0, slots := 0, locals := 22 } : Room) [.ref (t 2), .int x] (bkW cI cM ad z (txW cC t sg sz r wr)) (bkW cI cM ad z (txW cC t sg sz (if inP x 0 7 then upd (upd r 1 x) 0 1 else r) wr)) (some (.int (bI (inP x 0 7)))) 0 0 := by
  refine z_enter (by decide) (Nat.le_of_ble_eq_true rfl) ?_
  intro p e s m below meth c A S hr hlocks hnm hN hA hK hP hD hS ls hl
  obtain ⟨hx, hb, hml, hown, hts⟩ := id S
  have hl : lv_has ls 2 [(0, .ref (t 2)), (1, .int x)] := hl
  have hP : va_P D vwCl (bkW cI cM ad z (txW cC t sg sz r wr)) s.heap := hP
  have hD : va_D A (bkW cI cM ad z (txW cC t sg sz r wr)) := hD
  refine lv_iload_n hx hb dX1_takesGiver_0 rfl (lv_at hl 1 rfl) ?_
  refine lv_iconst (v := 0) hx hb dX1_takesGiver_1 (by decide) ?_
  refine lv_bipush (v := 7) hx hb dX1_takesGiver_2 (by decide) ?_
  refine z_callSN1 (rest := []) S (c_X5_isWithin x 0 7) hN.2.1 t_X5_isWithin ⟨Nat.le_of_ble_eq_true rfl, Nat.le_of_ble_eq_true rfl⟩ rfl rfl hN hK hP hD hS hA rfl hl.1 rfl (Nat.le_of_ble_eq_true rfl) dX1_takesGiver_4 ⟨Nat.le_of_ble_eq_true rfl, Nat.le_of_ble_eq_true rfl⟩ (fun H locs hP hD hS => ?_)
  refine lv_if_ne (tgt := 12) hx hb dX1_takesGiver_7 (by decide) (fun c1 => ?_) (fun c1 => ?_)
  · have c1 := bI_1 c1
    refine lv_aload_n hx hb dX1_takesGiver_12 rfl (lv_at hl 0 rfl) ?_
    refine lv_iload_n hx hb dX1_takesGiver_13 rfl (lv_at hl 1 rfl) ?_
    refine z_put (v := .int x) (ty := .int) (ws2 := bkW cI cM ad z (txW cC t sg sz (upd r 1 x) wr)) hx hb hts inTX1 tyX1 tyX1_ok nmX1 hown hK hP hD hS (19 + (2)) ((bk_r).trans (tx_2)) rfl 1 (by decide) (hts _ qf_X1_43) (fun _ h9 => h9) rfl (by decide +kernel) (rfl) (rfl) (Nat.le_of_ble_eq_true rfl) dX1_takesGiver_14 ((bk_rs).trans (congrArg (fun w_ => bkW cI cM ad z w_) (tx_w2 _ rfs_s1))) (fun H locs hP hD hS => ?_)
    refine lv_aload_n hx hb dX1_takesGiver_17 rfl (lv_at hl 0 rfl) ?_
    refine lv_iconst (v := 1) hx hb dX1_takesGiver_18 (by decide) ?_
    refine z_put (v := .int 1) (ty := .int) (ws2 := bkW cI cM ad z (txW cC t sg sz (upd (upd r 1 x) 0 1) wr)) hx hb hts inTX1 tyX1 tyX1_ok nmX1 hown hK hP hD hS (19 + (2)) ((bk_r).trans (tx_2)) rfl 0 (by decide) (hts _ qf_X1_11) (fun _ h9 => h9) rfl (by decide +kernel) (rfl) (rfl) (Nat.le_of_ble_eq_true rfl) dX1_takesGiver_19 ((bk_rs).trans (congrArg (fun w_ => bkW cI cM ad z w_) (tx_w2 _ rfs_s0))) (fun H locs hP hD hS => ?_)
    refine lv_iconst (v := 1) hx hb dX1_takesGiver_22 (by decide) ?_
    exact z_zret hx hb hr hlocks hP hD hK hS (by first | rfl | (simp only [bI, inP, minP, maxP, c1, not_true_eq_false, not_false_eq_true, and_self, and_true, true_and, and_false, false_and, or_true, true_or, or_false, false_or, if_true, if_false, ite_true, ite_false]; done) | (simp [bI, inP, minP, maxP, c1]; done) | (simp_all [bI, inP, minP, maxP]; done)) (by first | rfl | (simp only [bI, inP, minP, maxP, c1, not_true_eq_false, not_false_eq_true, and_self, and_true, true_and, and_false, false_and, or_true, true_or, or_false, false_or, if_true, if_false, ite_true, ite_false]; done) | (simp [bI, inP, minP, maxP, c1]; done) | (simp_all [bI, inP, minP, maxP]; done)) rfl dX1_takesGiver_23
  · have c1 := bI_0 c1
    refine lv_iconst (v := 0) hx hb dX1_takesGiver_10 (by decide) ?_
    exact z_zret hx hb hr hlocks hP hD hK hS (by first | rfl | (simp only [bI, inP, minP, maxP, c1, not_true_eq_false, not_false_eq_true, and_self, and_true, true_and, and_false, false_and, or_true, true_or, or_false, false_or, if_true, if_false, ite_true, ite_false]; done) | (simp [bI, inP, minP, maxP, c1]; done) | (simp_all [bI, inP, minP, maxP]; done)) (by first | rfl | (simp only [bI, inP, minP, maxP, c1, not_true_eq_false, not_false_eq_true, and_self, and_true, true_and, and_false, false_and, or_true, true_or, or_false, false_or, if_true, if_false, ite_true, ite_false]; done) | (simp [bI, inP, minP, maxP, c1]; done) | (simp_all [bI, inP, minP, maxP]; done)) rfl dX1_takesGiver_11
set_option maxHeartbeats 4000000 in
set_option maxRecDepth 100000 in
theorem c_X1_takesTaker {t : Nat → Nat} {sg : Nat → Int32} {sz : Int32} {r : Nat → Int32} (x : Int32) : zM l D (zT cI cC cM cB cJ) yX1_takesTaker cX1_takesTaker 2 (some .boolean) ({ frames := 1, cells := 0, slots := 0, locals := 22 } : Room) [.ref (t 2), .int x] (bkW cI cM ad z (txW cC t sg sz r wr)) (bkW cI cM ad z (txW cC t sg sz (if inP x 0 7 ∧ ¬ (x = r 1) then upd (upd r 2 x) 0 3 else r) wr)) (some (.int (bI (inP x 0 7 ∧ ¬ (x = r 1))))) 0 0 := by
  refine z_enter (by decide) (Nat.le_of_ble_eq_true rfl) ?_
  intro p e s m below meth c A S hr hlocks hnm hN hA hK hP hD hS ls hl
  obtain ⟨hx, hb, hml, hown, hts⟩ := id S
  have hl : lv_has ls 2 [(0, .ref (t 2)), (1, .int x)] := hl
  have hP : va_P D vwCl (bkW cI cM ad z (txW cC t sg sz r wr)) s.heap := hP
  have hD : va_D A (bkW cI cM ad z (txW cC t sg sz r wr)) := hD
  refine lv_iload_n hx hb dX1_takesTaker_0 rfl (lv_at hl 1 rfl) ?_
  refine lv_iconst (v := 0) hx hb dX1_takesTaker_1 (by decide) ?_
  refine lv_bipush (v := 7) hx hb dX1_takesTaker_2 (by decide) ?_
  refine z_callSN1 (rest := []) S (c_X5_isWithin x 0 7) hN.2.1 t_X5_isWithin ⟨Nat.le_of_ble_eq_true rfl, Nat.le_of_ble_eq_true rfl⟩ rfl rfl hN hK hP hD hS hA rfl hl.1 rfl (Nat.le_of_ble_eq_true rfl) dX1_takesTaker_4 ⟨Nat.le_of_ble_eq_true rfl, Nat.le_of_ble_eq_true rfl⟩ (fun H locs hP hD hS => ?_)
  refine lv_if_eq (tgt := 18) hx hb dX1_takesTaker_7 (by decide) (fun c1 => ?_) (fun c1 => ?_)
  · have c1 := bI_0 c1
    refine lv_iconst (v := 0) hx hb dX1_takesTaker_18 (by decide) ?_
    exact z_zret hx hb hr hlocks hP hD hK hS (by first | rfl | (simp only [bI, inP, minP, maxP, c1, not_true_eq_false, not_false_eq_true, and_self, and_true, true_and, and_false, false_and, or_true, true_or, or_false, false_or, if_true, if_false, ite_true, ite_false]; done) | (simp [bI, inP, minP, maxP, c1]; done) | (simp_all [bI, inP, minP, maxP]; done)) (by first | rfl | (simp only [bI, inP, minP, maxP, c1, not_true_eq_false, not_false_eq_true, and_self, and_true, true_and, and_false, false_and, or_true, true_or, or_false, false_or, if_true, if_false, ite_true, ite_false]; done) | (simp [bI, inP, minP, maxP, c1]; done) | (simp_all [bI, inP, minP, maxP]; done)) rfl dX1_takesTaker_19
  · have c1 := bI_1 c1
    refine lv_iload_n hx hb dX1_takesTaker_10 rfl (lv_at hl 1 rfl) ?_
    refine lv_aload_n hx hb dX1_takesTaker_11 rfl (lv_at hl 0 rfl) ?_
    refine va_get (v := .int (r 1)) hx hb hts inTX1 hown hK hP (19 + (2)) ((bk_r).trans (tx_2)) rfl 1 (by decide) (hts _ qf_X1_43) (fun _ h9 => h9) (rfl) dX1_takesTaker_12 ?_
    refine lv_icmp_ne (tgt := 20) hx hb dX1_takesTaker_15 (by decide) (fun c2 => ?_) (fun c2 => ?_)
    · skip
      refine lv_aload_n hx hb dX1_takesTaker_20 rfl (lv_at hl 0 rfl) ?_
      refine lv_iload_n hx hb dX1_takesTaker_21 rfl (lv_at hl 1 rfl) ?_
      refine z_put (v := .int x) (ty := .int) (ws2 := bkW cI cM ad z (txW cC t sg sz (upd r 2 x) wr)) hx hb hts inTX1 tyX1 tyX1_ok nmX1 hown hK hP hD hS (19 + (2)) ((bk_r).trans (tx_2)) rfl 2 (by decide) (hts _ qf_X1_46) (fun _ h9 => h9) rfl (by decide +kernel) (rfl) (rfl) (Nat.le_of_ble_eq_true rfl) dX1_takesTaker_22 ((bk_rs).trans (congrArg (fun w_ => bkW cI cM ad z w_) (tx_w2 _ rfs_s2))) (fun H locs hP hD hS => ?_)
      refine lv_aload_n hx hb dX1_takesTaker_25 rfl (lv_at hl 0 rfl) ?_
      refine lv_iconst (v := 3) hx hb dX1_takesTaker_26 (by decide) ?_
      refine z_put (v := .int 3) (ty := .int) (ws2 := bkW cI cM ad z (txW cC t sg sz (upd (upd r 2 x) 0 3) wr)) hx hb hts inTX1 tyX1 tyX1_ok nmX1 hown hK hP hD hS (19 + (2)) ((bk_r).trans (tx_2)) rfl 0 (by decide) (hts _ qf_X1_11) (fun _ h9 => h9) rfl (by decide +kernel) (rfl) (rfl) (Nat.le_of_ble_eq_true rfl) dX1_takesTaker_27 ((bk_rs).trans (congrArg (fun w_ => bkW cI cM ad z w_) (tx_w2 _ rfs_s0))) (fun H locs hP hD hS => ?_)
      refine lv_iconst (v := 1) hx hb dX1_takesTaker_30 (by decide) ?_
      exact z_zret hx hb hr hlocks hP hD hK hS (by first | rfl | (simp only [bI, inP, minP, maxP, c1, c2, not_true_eq_false, not_false_eq_true, and_self, and_true, true_and, and_false, false_and, or_true, true_or, or_false, false_or, if_true, if_false, ite_true, ite_false]; done) | (simp [bI, inP, minP, maxP, c1, c2]; done) | (simp_all [bI, inP, minP, maxP]; done)) (by first | rfl | (simp only [bI, inP, minP, maxP, c1, c2, not_true_eq_false, not_false_eq_true, and_self, and_true, true_and, and_false, false_and, or_true, true_or, or_false, false_or, if_true, if_false, ite_true, ite_false]; done) | (simp [bI, inP, minP, maxP, c1, c2]; done) | (simp_all [bI, inP, minP, maxP]; done)) rfl dX1_takesTaker_31
    · skip
      refine lv_iconst (v := 0) hx hb dX1_takesTaker_18 (by decide) ?_
      exact z_zret hx hb hr hlocks hP hD hK hS (by first | rfl | (simp only [bI, inP, minP, maxP, c1, c2, not_true_eq_false, not_false_eq_true, and_self, and_true, true_and, and_false, false_and, or_true, true_or, or_false, false_or, if_true, if_false, ite_true, ite_false]; done) | (simp [bI, inP, minP, maxP, c1, c2]; done) | (simp_all [bI, inP, minP, maxP]; done)) (by first | rfl | (simp only [bI, inP, minP, maxP, c1, c2, not_true_eq_false, not_false_eq_true, and_self, and_true, true_and, and_false, false_and, or_true, true_or, or_false, false_or, if_true, if_false, ite_true, ite_false]; done) | (simp [bI, inP, minP, maxP, c1, c2]; done) | (simp_all [bI, inP, minP, maxP]; done)) rfl dX1_takesTaker_19
set_option maxHeartbeats 4000000 in
set_option maxRecDepth 100000 in
theorem c_X1_takesSkill {t : Nat → Nat} {sg : Nat → Int32} {sz : Int32} {r : Nat → Int32} (x : Int32) : zM l D (zT cI cC cM cB cJ) yX1_takesSkill cX1_takesSkill 2 (some .boolean) ({ frames := 2, cells := 0, slots := 0, locals := 42 } : Room) [.ref (t 2), .int x] (bkW cI cM ad z (txW cC t sg sz r wr)) (bkW cI cM ad z (txW cC t sg sz (if inP x 0 4 then upd (upd r 3 x) 0 4 else r) wr)) (some (.int (bI (inP x 0 4)))) 0 0 := by
  refine z_enter (by decide) (Nat.le_of_ble_eq_true rfl) ?_
  intro p e s m below meth c A S hr hlocks hnm hN hA hK hP hD hS ls hl
  obtain ⟨hx, hb, hml, hown, hts⟩ := id S
  have hl : lv_has ls 2 [(0, .ref (t 2)), (1, .int x)] := hl
  have hP : va_P D vwCl (bkW cI cM ad z (txW cC t sg sz r wr)) s.heap := hP
  have hD : va_D A (bkW cI cM ad z (txW cC t sg sz r wr)) := hD
  refine lv_iload_n hx hb dX1_takesSkill_0 rfl (lv_at hl 1 rfl) ?_
  refine z_callSN1 (rest := []) S (c_X5_isSkill x) hN.2.2.1 t_X5_isSkill ⟨Nat.le_of_ble_eq_true rfl, Nat.le_of_ble_eq_true rfl⟩ rfl rfl hN hK hP hD hS hA rfl hl.1 rfl (Nat.le_of_ble_eq_true rfl) dX1_takesSkill_1 ⟨Nat.le_of_ble_eq_true rfl, Nat.le_of_ble_eq_true rfl⟩ (fun H locs hP hD hS => ?_)
  refine lv_if_ne (tgt := 9) hx hb dX1_takesSkill_4 (by decide) (fun c1 => ?_) (fun c1 => ?_)
  · have c1 := bI_1 c1
    refine lv_aload_n hx hb dX1_takesSkill_9 rfl (lv_at hl 0 rfl) ?_
    refine lv_iload_n hx hb dX1_takesSkill_10 rfl (lv_at hl 1 rfl) ?_
    refine z_put (v := .int x) (ty := .int) (ws2 := bkW cI cM ad z (txW cC t sg sz (upd r 3 x) wr)) hx hb hts inTX1 tyX1 tyX1_ok nmX1 hown hK hP hD hS (19 + (2)) ((bk_r).trans (tx_2)) rfl 3 (by decide) (hts _ qf_X1_52) (fun _ h9 => h9) rfl (by decide +kernel) (rfl) (rfl) (Nat.le_of_ble_eq_true rfl) dX1_takesSkill_11 ((bk_rs).trans (congrArg (fun w_ => bkW cI cM ad z w_) (tx_w2 _ rfs_s3))) (fun H locs hP hD hS => ?_)
    refine lv_aload_n hx hb dX1_takesSkill_14 rfl (lv_at hl 0 rfl) ?_
    refine lv_iconst (v := 4) hx hb dX1_takesSkill_15 (by decide) ?_
    refine z_put (v := .int 4) (ty := .int) (ws2 := bkW cI cM ad z (txW cC t sg sz (upd (upd r 3 x) 0 4) wr)) hx hb hts inTX1 tyX1 tyX1_ok nmX1 hown hK hP hD hS (19 + (2)) ((bk_r).trans (tx_2)) rfl 0 (by decide) (hts _ qf_X1_11) (fun _ h9 => h9) rfl (by decide +kernel) (rfl) (rfl) (Nat.le_of_ble_eq_true rfl) dX1_takesSkill_16 ((bk_rs).trans (congrArg (fun w_ => bkW cI cM ad z w_) (tx_w2 _ rfs_s0))) (fun H locs hP hD hS => ?_)
    refine lv_iconst (v := 1) hx hb dX1_takesSkill_19 (by decide) ?_
    exact z_zret hx hb hr hlocks hP hD hK hS (by first | rfl | (simp only [bI, inP, minP, maxP, c1, not_true_eq_false, not_false_eq_true, and_self, and_true, true_and, and_false, false_and, or_true, true_or, or_false, false_or, if_true, if_false, ite_true, ite_false]; done) | (simp [bI, inP, minP, maxP, c1]; done) | (simp_all [bI, inP, minP, maxP]; done)) (by first | rfl | (simp only [bI, inP, minP, maxP, c1, not_true_eq_false, not_false_eq_true, and_self, and_true, true_and, and_false, false_and, or_true, true_or, or_false, false_or, if_true, if_false, ite_true, ite_false]; done) | (simp [bI, inP, minP, maxP, c1]; done) | (simp_all [bI, inP, minP, maxP]; done)) rfl dX1_takesSkill_20
  · have c1 := bI_0 c1
    refine lv_iconst (v := 0) hx hb dX1_takesSkill_7 (by decide) ?_
    exact z_zret hx hb hr hlocks hP hD hK hS (by first | rfl | (simp only [bI, inP, minP, maxP, c1, not_true_eq_false, not_false_eq_true, and_self, and_true, true_and, and_false, false_and, or_true, true_or, or_false, false_or, if_true, if_false, ite_true, ite_false]; done) | (simp [bI, inP, minP, maxP, c1]; done) | (simp_all [bI, inP, minP, maxP]; done)) (by first | rfl | (simp only [bI, inP, minP, maxP, c1, not_true_eq_false, not_false_eq_true, and_self, and_true, true_and, and_false, false_and, or_true, true_or, or_false, false_or, if_true, if_false, ite_true, ite_false]; done) | (simp [bI, inP, minP, maxP, c1]; done) | (simp_all [bI, inP, minP, maxP]; done)) rfl dX1_takesSkill_8
set_option maxHeartbeats 4000000 in
set_option maxRecDepth 100000 in
theorem c_X1_takesDigit {t : Nat → Nat} {sg : Nat → Int32} {sz : Int32} {r : Nat → Int32} (x : Int32) : zM l D (zT cI cC cM cB cJ) yX1_takesDigit cX1_takesDigit 2 (some .boolean) ({ frames := 2, cells := 0, slots := 0, locals := 42 } : Room) [.ref (t 2), .int x] (bkW cI cM ad z (txW cC t sg sz r wr)) (bkW cI cM ad z (txW cC t sg sz (if inP x 0 9 ∧ inP (r 4 * 10 + x) 1 600 then upd r 4 (r 4 * 10 + x) else r) wr)) (some (.int (bI (inP x 0 9 ∧ inP (r 4 * 10 + x) 1 600)))) 0 0 := by
  refine z_enter (by decide) (Nat.le_of_ble_eq_true rfl) ?_
  intro p e s m below meth c A S hr hlocks hnm hN hA hK hP hD hS ls hl
  obtain ⟨hx, hb, hml, hown, hts⟩ := id S
  have hl : lv_has ls 2 [(0, .ref (t 2)), (1, .int x)] := hl
  have hP : va_P D vwCl (bkW cI cM ad z (txW cC t sg sz r wr)) s.heap := hP
  have hD : va_D A (bkW cI cM ad z (txW cC t sg sz r wr)) := hD
  refine lv_iload_n hx hb dX1_takesDigit_0 rfl (lv_at hl 1 rfl) ?_
  refine lv_iconst (v := 0) hx hb dX1_takesDigit_1 (by decide) ?_
  refine lv_bipush (v := 9) hx hb dX1_takesDigit_2 (by decide) ?_
  refine z_callSN1 (rest := []) S (c_X5_isWithin x 0 9) hN.2.1 t_X5_isWithin ⟨Nat.le_of_ble_eq_true rfl, Nat.le_of_ble_eq_true rfl⟩ rfl rfl hN hK hP hD hS hA rfl hl.1 rfl (Nat.le_of_ble_eq_true rfl) dX1_takesDigit_4 ⟨Nat.le_of_ble_eq_true rfl, Nat.le_of_ble_eq_true rfl⟩ (fun H locs hP hD hS => ?_)
  refine lv_if_eq (tgt := 25) hx hb dX1_takesDigit_7 (by decide) (fun c1 => ?_) (fun c1 => ?_)
  · have c1 := bI_0 c1
    refine lv_iconst (v := 0) hx hb dX1_takesDigit_25 (by decide) ?_
    exact z_zret hx hb hr hlocks hP hD hK hS (by first | rfl | (simp only [bI, inP, minP, maxP, c1, not_true_eq_false, not_false_eq_true, and_self, and_true, true_and, and_false, false_and, or_true, true_or, or_false, false_or, if_true, if_false, ite_true, ite_false]; done) | (simp [bI, inP, minP, maxP, c1]; done) | (simp_all [bI, inP, minP, maxP]; done)) (by first | rfl | (simp only [bI, inP, minP, maxP, c1, not_true_eq_false, not_false_eq_true, and_self, and_true, true_and, and_false, false_and, or_true, true_or, or_false, false_or, if_true, if_false, ite_true, ite_false]; done) | (simp [bI, inP, minP, maxP, c1]; done) | (simp_all [bI, inP, minP, maxP]; done)) rfl dX1_takesDigit_26
  · have c1 := bI_1 c1
    refine lv_aload_n hx hb dX1_takesDigit_10 rfl (lv_at hl 0 rfl) ?_
    refine va_get (v := .int (r 4)) hx hb hts inTX1 hown hK hP (19 + (2)) ((bk_r).trans (tx_2)) rfl 4 (by decide) (hts _ qf_X1_15) (fun _ h9 => h9) (rfl) dX1_takesDigit_11 ?_
    refine lv_bipush (v := 10) hx hb dX1_takesDigit_14 (by decide) ?_
    refine lv_imul hx hb dX1_takesDigit_16  ?_
    refine lv_iload_n hx hb dX1_takesDigit_17 rfl (lv_at hl 1 rfl) ?_
    refine lv_iadd hx hb dX1_takesDigit_18  ?_
    refine z_callSN1 (rest := []) S (c_X5_isDealMinutes (((r 4) * 10) + x)) hN.2.2.2.1 t_X5_isDealMinutes ⟨Nat.le_of_ble_eq_true rfl, Nat.le_of_ble_eq_true rfl⟩ rfl rfl hN hK hP hD hS hA rfl hl.1 rfl (Nat.le_of_ble_eq_true rfl) dX1_takesDigit_19 ⟨Nat.le_of_ble_eq_true rfl, Nat.le_of_ble_eq_true rfl⟩ (fun H locs hP hD hS => ?_)
    refine lv_if_ne (tgt := 27) hx hb dX1_takesDigit_22 (by decide) (fun c2 => ?_) (fun c2 => ?_)
    · have c2 := bI_1 c2
      refine lv_aload_n hx hb dX1_takesDigit_27 rfl (lv_at hl 0 rfl) ?_
      refine lv_aload_n hx hb dX1_takesDigit_28 rfl (lv_at hl 0 rfl) ?_
      refine va_get (v := .int (r 4)) hx hb hts inTX1 hown hK hP (19 + (2)) ((bk_r).trans (tx_2)) rfl 4 (by decide) (hts _ qf_X1_15) (fun _ h9 => h9) (rfl) dX1_takesDigit_29 ?_
      refine lv_bipush (v := 10) hx hb dX1_takesDigit_32 (by decide) ?_
      refine lv_imul hx hb dX1_takesDigit_34  ?_
      refine lv_iload_n hx hb dX1_takesDigit_35 rfl (lv_at hl 1 rfl) ?_
      refine lv_iadd hx hb dX1_takesDigit_36  ?_
      refine z_put (v := .int (((r 4) * 10) + x)) (ty := .int) (ws2 := bkW cI cM ad z (txW cC t sg sz (upd r 4 (((r 4) * 10) + x)) wr)) hx hb hts inTX1 tyX1 tyX1_ok nmX1 hown hK hP hD hS (19 + (2)) ((bk_r).trans (tx_2)) rfl 4 (by decide) (hts _ qf_X1_15) (fun _ h9 => h9) rfl (by decide +kernel) (rfl) (rfl) (Nat.le_of_ble_eq_true rfl) dX1_takesDigit_37 ((bk_rs).trans (congrArg (fun w_ => bkW cI cM ad z w_) (tx_w2 _ rfs_s4))) (fun H locs hP hD hS => ?_)
      refine lv_iconst (v := 1) hx hb dX1_takesDigit_40 (by decide) ?_
      exact z_zret hx hb hr hlocks hP hD hK hS (by first | rfl | (simp only [bI, inP, minP, maxP, c1, c2, not_true_eq_false, not_false_eq_true, and_self, and_true, true_and, and_false, false_and, or_true, true_or, or_false, false_or, if_true, if_false, ite_true, ite_false]; done) | (simp [bI, inP, minP, maxP, c1, c2]; done) | (simp_all [bI, inP, minP, maxP]; done)) (by first | rfl | (simp only [bI, inP, minP, maxP, c1, c2, not_true_eq_false, not_false_eq_true, and_self, and_true, true_and, and_false, false_and, or_true, true_or, or_false, false_or, if_true, if_false, ite_true, ite_false]; done) | (simp [bI, inP, minP, maxP, c1, c2]; done) | (simp_all [bI, inP, minP, maxP]; done)) rfl dX1_takesDigit_41
    · have c2 := bI_0 c2
      refine lv_iconst (v := 0) hx hb dX1_takesDigit_25 (by decide) ?_
      exact z_zret hx hb hr hlocks hP hD hK hS (by first | rfl | (simp only [bI, inP, minP, maxP, c1, c2, not_true_eq_false, not_false_eq_true, and_self, and_true, true_and, and_false, false_and, or_true, true_or, or_false, false_or, if_true, if_false, ite_true, ite_false]; done) | (simp [bI, inP, minP, maxP, c1, c2]; done) | (simp_all [bI, inP, minP, maxP]; done)) (by first | rfl | (simp only [bI, inP, minP, maxP, c1, c2, not_true_eq_false, not_false_eq_true, and_self, and_true, true_and, and_false, false_and, or_true, true_or, or_false, false_or, if_true, if_false, ite_true, ite_false]; done) | (simp [bI, inP, minP, maxP, c1, c2]; done) | (simp_all [bI, inP, minP, maxP]; done)) rfl dX1_takesDigit_26
set_option maxHeartbeats 4000000 in
set_option maxRecDepth 100000 in
theorem c_X1_takesMark {t : Nat → Nat} {sg : Nat → Int32} {sz : Int32} {r : Nat → Int32} (x y : Int32) : zM l D (zT cI cC cM cB cJ) yX1_takesMark cX1_takesMark 3 (some .boolean) ({ frames := 0, cells := 0, slots := 0, locals := 0 } : Room) [.ref (t 2), .int x, .int y] (bkW cI cM ad z (txW cC t sg sz r wr)) (bkW cI cM ad z (txW cC t sg sz (if x = y then upd r 0 (r 0 + 1) else r) wr)) (some (.int (bI (x = y)))) 0 0 := by
  refine z_enter (by decide) (Nat.le_of_ble_eq_true rfl) ?_
  intro p e s m below meth c A S hr hlocks hnm hN hA hK hP hD hS ls hl
  obtain ⟨hx, hb, hml, hown, hts⟩ := id S
  have hl : lv_has ls 3 [(0, .ref (t 2)), (1, .int x), (2, .int y)] := hl
  have hP : va_P D vwCl (bkW cI cM ad z (txW cC t sg sz r wr)) s.heap := hP
  have hD : va_D A (bkW cI cM ad z (txW cC t sg sz r wr)) := hD
  refine lv_iload_n hx hb dX1_takesMark_0 rfl (lv_at hl 1 rfl) ?_
  refine lv_iload_n hx hb dX1_takesMark_1 rfl (lv_at hl 2 rfl) ?_
  refine lv_icmp_eq (tgt := 7) hx hb dX1_takesMark_2 (by decide) (fun c1 => ?_) (fun c1 => ?_)
  · skip
    refine lv_aload_n hx hb dX1_takesMark_7 rfl (lv_at hl 0 rfl) ?_
    refine lv_dup hx hb dX1_takesMark_8 rfl ?_
    refine va_get (v := .int (r 0)) hx hb hts inTX1 hown hK hP (19 + (2)) ((bk_r).trans (tx_2)) rfl 0 (by decide) (hts _ qf_X1_11) (fun _ h9 => h9) (rfl) dX1_takesMark_9 ?_
    refine lv_iconst (v := 1) hx hb dX1_takesMark_12 (by decide) ?_
    refine lv_iadd hx hb dX1_takesMark_13  ?_
    refine z_put (v := .int ((r 0) + 1)) (ty := .int) (ws2 := bkW cI cM ad z (txW cC t sg sz (upd r 0 ((r 0) + 1)) wr)) hx hb hts inTX1 tyX1 tyX1_ok nmX1 hown hK hP hD hS (19 + (2)) ((bk_r).trans (tx_2)) rfl 0 (by decide) (hts _ qf_X1_11) (fun _ h9 => h9) rfl (by decide +kernel) (rfl) (rfl) (Nat.le_of_ble_eq_true rfl) dX1_takesMark_14 ((bk_rs).trans (congrArg (fun w_ => bkW cI cM ad z w_) (tx_w2 _ rfs_s0))) (fun H locs hP hD hS => ?_)
    refine lv_iconst (v := 1) hx hb dX1_takesMark_17 (by decide) ?_
    exact z_zret hx hb hr hlocks hP hD hK hS (by first | rfl | (simp only [bI, minP, maxP, c1, not_true_eq_false, not_false_eq_true, and_self, and_true, true_and, and_false, false_and, or_true, true_or, or_false, false_or, if_true, if_false, ite_true, ite_false]; done) | (simp [bI, minP, maxP, c1]; done) | (simp_all [bI, minP, maxP]; done)) (by first | rfl | (simp only [bI, minP, maxP, c1, not_true_eq_false, not_false_eq_true, and_self, and_true, true_and, and_false, false_and, or_true, true_or, or_false, false_or, if_true, if_false, ite_true, ite_false]; done) | (simp [bI, minP, maxP, c1]; done) | (simp_all [bI, minP, maxP]; done)) rfl dX1_takesMark_18
  · skip
    refine lv_iconst (v := 0) hx hb dX1_takesMark_5 (by decide) ?_
    exact z_zret hx hb hr hlocks hP hD hK hS (by first | rfl | (simp only [bI, minP, maxP, c1, not_true_eq_false, not_false_eq_true, and_self, and_true, true_and, and_false, false_and, or_true, true_or, or_false, false_or, if_true, if_false, ite_true, ite_false]; done) | (simp [bI, minP, maxP, c1]; done) | (simp_all [bI, minP, maxP]; done)) (by first | rfl | (simp only [bI, minP, maxP, c1, not_true_eq_false, not_false_eq_true, and_self, and_true, true_and, and_false, false_and, or_true, true_or, or_false, false_or, if_true, if_false, ite_true, ite_false]; done) | (simp [bI, minP, maxP, c1]; done) | (simp_all [bI, minP, maxP]; done)) rfl dX1_takesMark_6
set_option maxHeartbeats 4000000 in
set_option maxRecDepth 100000 in
theorem c_X1_takesEnd {t : Nat → Nat} {sg : Nat → Int32} {sz : Int32} {r : Nat → Int32} : zM l D (zT cI cC cM cB cJ) yX1_takesEnd cX1_takesEnd 1 (some .boolean) ({ frames := 1, cells := 0, slots := 0, locals := 20 } : Room) [.ref (t 2)] (bkW cI cM ad z (txW cC t sg sz r wr)) (bkW cI cM ad z (txW cC t sg sz (if whP r then rstR r else r) wr)) (some (.int (bI (whP r)))) 0 0 := by
  refine z_enter (by decide) (Nat.le_of_ble_eq_true rfl) ?_
  intro p e s m below meth c A S hr hlocks hnm hN hA hK hP hD hS ls hl
  obtain ⟨hx, hb, hml, hown, hts⟩ := id S
  have hl : lv_has ls 1 [(0, .ref (t 2))] := hl
  have hP : va_P D vwCl (bkW cI cM ad z (txW cC t sg sz r wr)) s.heap := hP
  have hD : va_D A (bkW cI cM ad z (txW cC t sg sz r wr)) := hD
  refine lv_aload_n hx hb dX1_takesEnd_0 rfl (lv_at hl 0 rfl) ?_
  refine z_callV1 (rest := []) S (c_X1_isDealWhole ) qm_X1_58 v_X1_isDealWhole ⟨Nat.le_of_ble_eq_true rfl, Nat.le_of_ble_eq_true rfl⟩ rfl rfl hN hK hP hD hS hA (19 + (2)) ((bk_r).trans (tx_2)) rfl rfl hl.1 rfl (Nat.le_of_ble_eq_true rfl) dX1_takesEnd_1 ⟨Nat.le_of_ble_eq_true rfl, Nat.le_of_ble_eq_true rfl⟩ (fun H locs hP hD hS => ?_)
  refine lv_if_ne (tgt := 9) hx hb dX1_takesEnd_4 (by decide) (fun c1 => ?_) (fun c1 => ?_)
  · have c1 := bI_1 c1
    refine lv_aload_n hx hb dX1_takesEnd_9 rfl (lv_at hl 0 rfl) ?_
    refine z_callV0 (rest := []) S (c_X1_restart ) qm_X1_61 v_X1_restart ⟨Nat.le_of_ble_eq_true rfl, Nat.le_of_ble_eq_true rfl⟩ rfl rfl hN hK hP hD hS hA (19 + (2)) ((bk_r).trans (tx_2)) rfl rfl hl.1 rfl (Nat.le_of_ble_eq_true rfl) dX1_takesEnd_10 ⟨Nat.le_of_ble_eq_true rfl, Nat.le_of_ble_eq_true rfl⟩ (fun H locs hP hD hS => ?_)
    refine lv_iconst (v := 1) hx hb dX1_takesEnd_13 (by decide) ?_
    exact z_zret hx hb hr hlocks hP hD hK hS (by first | rfl | (simp only [bI, whP, minP, maxP, c1, not_true_eq_false, not_false_eq_true, and_self, and_true, true_and, and_false, false_and, or_true, true_or, or_false, false_or, if_true, if_false, ite_true, ite_false]; done) | (simp [bI, whP, minP, maxP, c1]; done) | (simp_all [bI, whP, minP, maxP]; done)) (by first | rfl | (simp only [bI, whP, minP, maxP, c1, not_true_eq_false, not_false_eq_true, and_self, and_true, true_and, and_false, false_and, or_true, true_or, or_false, false_or, if_true, if_false, ite_true, ite_false]; done) | (simp [bI, whP, minP, maxP, c1]; done) | (simp_all [bI, whP, minP, maxP]; done)) rfl dX1_takesEnd_14
  · have c1 := bI_0 c1
    refine lv_iconst (v := 0) hx hb dX1_takesEnd_7 (by decide) ?_
    exact z_zret hx hb hr hlocks hP hD hK hS (by first | rfl | (simp only [bI, whP, minP, maxP, c1, not_true_eq_false, not_false_eq_true, and_self, and_true, true_and, and_false, false_and, or_true, true_or, or_false, false_or, if_true, if_false, ite_true, ite_false]; done) | (simp [bI, whP, minP, maxP, c1]; done) | (simp_all [bI, whP, minP, maxP]; done)) (by first | rfl | (simp only [bI, whP, minP, maxP, c1, not_true_eq_false, not_false_eq_true, and_self, and_true, true_and, and_false, false_and, or_true, true_or, or_false, false_or, if_true, if_false, ite_true, ite_false]; done) | (simp [bI, whP, minP, maxP, c1]; done) | (simp_all [bI, whP, minP, maxP]; done)) rfl dX1_takesEnd_8
set_option maxHeartbeats 4000000 in
set_option maxRecDepth 100000 in
theorem c_X1_takes {t : Nat → Nat} {sg : Nat → Int32} {sz : Int32} {r : Nat → Int32} (x : Int32) : zM l D (zT cI cC cM cB cJ) yX1_takes cX1_takes 2 (some .boolean) ({ frames := 3, cells := 0, slots := 0, locals := 63 } : Room) [.ref (t 2), .int x] (bkW cI cM ad z (txW cC t sg sz r wr)) (bkW cI cM ad z (txW cC t sg sz (tkR r x) wr)) (some (.int (tkV r x))) 0 0 := by
  refine z_enter (by decide) (Nat.le_of_ble_eq_true rfl) ?_
  intro p e s m below meth c A S hr hlocks hnm hN hA hK hP hD hS ls hl
  obtain ⟨hx, hb, hml, hown, hts⟩ := id S
  have hl : lv_has ls 2 [(0, .ref (t 2)), (1, .int x)] := hl
  have hP : va_P D vwCl (bkW cI cM ad z (txW cC t sg sz r wr)) s.heap := hP
  have hD : va_D A (bkW cI cM ad z (txW cC t sg sz r wr)) := hD
  refine lv_aload_n hx hb dX1_takes_0 rfl (lv_at hl 0 rfl) ?_
  refine va_get (v := .int (r 0)) hx hb hts inTX1 hown hK hP (19 + (2)) ((bk_r).trans (tx_2)) rfl 0 (by decide) (hts _ qf_X1_11) (fun _ h9 => h9) (rfl) dX1_takes_1 ?_
  rcases z_cases4 (r 0) with c1 | c1 | c1 | c1 | c1 | c1
  · refine lv_tableIn (tgt := 40) (off := 36) hx hb dX1_takes_4 (by rw [c1]; decide) (by rw [c1]; decide) (by rw [c1]; decide) (by decide) ?_
    refine lv_aload_n hx hb dX1_takes_40 rfl (lv_at hl 0 rfl) ?_
    refine lv_iload_n hx hb dX1_takes_41 rfl (lv_at hl 1 rfl) ?_
    refine lv_bipush (v := 97) hx hb dX1_takes_42 (by decide) ?_
    refine lv_isub hx hb dX1_takes_44  ?_
    refine z_callV1 (rest := []) S (c_X1_takesGiver (x - 97)) qm_X1_18 v_X1_takesGiver ⟨Nat.le_of_ble_eq_true rfl, Nat.le_of_ble_eq_true rfl⟩ rfl rfl hN hK hP hD hS hA (19 + (2)) ((bk_r).trans (tx_2)) rfl rfl hl.1 rfl (Nat.le_of_ble_eq_true rfl) dX1_takes_45 ⟨Nat.le_of_ble_eq_true rfl, Nat.le_of_ble_eq_true rfl⟩ (fun H locs hP hD hS => ?_)
    exact z_zret hx hb hr hlocks hP hD hK hS (by first | rfl | (simp only [tkR, tkV, bI, inP, whP, minP, maxP, c1, not_true_eq_false, not_false_eq_true, and_self, and_true, true_and, and_false, false_and, or_true, true_or, or_false, false_or, if_true, if_false, ite_true, ite_false]; done) | (simp [tkR, tkV, bI, inP, whP, minP, maxP, c1]; done) | (simp_all [tkR, tkV, bI, inP, whP, minP, maxP]; done)) (by first | rfl | (simp only [tkR, tkV, bI, inP, whP, minP, maxP, c1, not_true_eq_false, not_false_eq_true, and_self, and_true, true_and, and_false, false_and, or_true, true_or, or_false, false_or, if_true, if_false, ite_true, ite_false]; done) | (simp [tkR, tkV, bI, inP, whP, minP, maxP, c1]; done) | (simp_all [tkR, tkV, bI, inP, whP, minP, maxP]; done)) (bI_nr _) dX1_takes_48
  · refine lv_tableIn (tgt := 49) (off := 45) hx hb dX1_takes_4 (by rw [c1]; decide) (by rw [c1]; decide) (by rw [c1]; decide) (by decide) ?_
    refine lv_aload_n hx hb dX1_takes_49 rfl (lv_at hl 0 rfl) ?_
    refine lv_iload_n hx hb dX1_takes_50 rfl (lv_at hl 1 rfl) ?_
    refine lv_bipush (v := 62) hx hb dX1_takes_51 (by decide) ?_
    refine z_callV1 (rest := []) S (c_X1_takesMark x 62) qm_X1_22 v_X1_takesMark ⟨Nat.le_of_ble_eq_true rfl, Nat.le_of_ble_eq_true rfl⟩ rfl rfl hN hK hP hD hS hA (19 + (2)) ((bk_r).trans (tx_2)) rfl rfl hl.1 rfl (Nat.le_of_ble_eq_true rfl) dX1_takes_53 ⟨Nat.le_of_ble_eq_true rfl, Nat.le_of_ble_eq_true rfl⟩ (fun H locs hP hD hS => ?_)
    exact z_zret hx hb hr hlocks hP hD hK hS (by first | rfl | (simp only [tkR, tkV, bI, inP, whP, minP, maxP, c1, not_true_eq_false, not_false_eq_true, and_self, and_true, true_and, and_false, false_and, or_true, true_or, or_false, false_or, if_true, if_false, ite_true, ite_false]; done) | (simp [tkR, tkV, bI, inP, whP, minP, maxP, c1]; done) | (simp_all [tkR, tkV, bI, inP, whP, minP, maxP]; done)) (by first | rfl | (simp only [tkR, tkV, bI, inP, whP, minP, maxP, c1, not_true_eq_false, not_false_eq_true, and_self, and_true, true_and, and_false, false_and, or_true, true_or, or_false, false_or, if_true, if_false, ite_true, ite_false]; done) | (simp [tkR, tkV, bI, inP, whP, minP, maxP, c1]; done) | (simp_all [tkR, tkV, bI, inP, whP, minP, maxP]; done)) (bI_nr _) dX1_takes_56
  · refine lv_tableIn (tgt := 57) (off := 53) hx hb dX1_takes_4 (by rw [c1]; decide) (by rw [c1]; decide) (by rw [c1]; decide) (by decide) ?_
    refine lv_aload_n hx hb dX1_takes_57 rfl (lv_at hl 0 rfl) ?_
    refine lv_iload_n hx hb dX1_takes_58 rfl (lv_at hl 1 rfl) ?_
    refine lv_bipush (v := 97) hx hb dX1_takes_59 (by decide) ?_
    refine lv_isub hx hb dX1_takes_61  ?_
    refine z_callV1 (rest := []) S (c_X1_takesTaker (x - 97)) qm_X1_26 v_X1_takesTaker ⟨Nat.le_of_ble_eq_true rfl, Nat.le_of_ble_eq_true rfl⟩ rfl rfl hN hK hP hD hS hA (19 + (2)) ((bk_r).trans (tx_2)) rfl rfl hl.1 rfl (Nat.le_of_ble_eq_true rfl) dX1_takes_62 ⟨Nat.le_of_ble_eq_true rfl, Nat.le_of_ble_eq_true rfl⟩ (fun H locs hP hD hS => ?_)
    exact z_zret hx hb hr hlocks hP hD hK hS (by first | rfl | (simp only [tkR, tkV, bI, inP, whP, minP, maxP, c1, not_true_eq_false, not_false_eq_true, and_self, and_true, true_and, and_false, false_and, or_true, true_or, or_false, false_or, if_true, if_false, ite_true, ite_false]; done) | (simp [tkR, tkV, bI, inP, whP, minP, maxP, c1]; done) | (simp_all [tkR, tkV, bI, inP, whP, minP, maxP]; done)) (by first | rfl | (simp only [tkR, tkV, bI, inP, whP, minP, maxP, c1, not_true_eq_false, not_false_eq_true, and_self, and_true, true_and, and_false, false_and, or_true, true_or, or_false, false_or, if_true, if_false, ite_true, ite_false]; done) | (simp [tkR, tkV, bI, inP, whP, minP, maxP, c1]; done) | (simp_all [tkR, tkV, bI, inP, whP, minP, maxP]; done)) (bI_nr _) dX1_takes_65
  · refine lv_tableIn (tgt := 66) (off := 62) hx hb dX1_takes_4 (by rw [c1]; decide) (by rw [c1]; decide) (by rw [c1]; decide) (by decide) ?_
    refine lv_aload_n hx hb dX1_takes_66 rfl (lv_at hl 0 rfl) ?_
    refine lv_iload_n hx hb dX1_takes_67 rfl (lv_at hl 1 rfl) ?_
    refine lv_bipush (v := 48) hx hb dX1_takes_68 (by decide) ?_
    refine lv_isub hx hb dX1_takes_70  ?_
    refine z_callV1 (rest := []) S (c_X1_takesSkill (x - 48)) qm_X1_29 v_X1_takesSkill ⟨Nat.le_of_ble_eq_true rfl, Nat.le_of_ble_eq_true rfl⟩ rfl rfl hN hK hP hD hS hA (19 + (2)) ((bk_r).trans (tx_2)) rfl rfl hl.1 rfl (Nat.le_of_ble_eq_true rfl) dX1_takes_71 ⟨Nat.le_of_ble_eq_true rfl, Nat.le_of_ble_eq_true rfl⟩ (fun H locs hP hD hS => ?_)
    exact z_zret hx hb hr hlocks hP hD hK hS (by first | rfl | (simp only [tkR, tkV, bI, inP, whP, minP, maxP, c1, not_true_eq_false, not_false_eq_true, and_self, and_true, true_and, and_false, false_and, or_true, true_or, or_false, false_or, if_true, if_false, ite_true, ite_false]; done) | (simp [tkR, tkV, bI, inP, whP, minP, maxP, c1]; done) | (simp_all [tkR, tkV, bI, inP, whP, minP, maxP]; done)) (by first | rfl | (simp only [tkR, tkV, bI, inP, whP, minP, maxP, c1, not_true_eq_false, not_false_eq_true, and_self, and_true, true_and, and_false, false_and, or_true, true_or, or_false, false_or, if_true, if_false, ite_true, ite_false]; done) | (simp [tkR, tkV, bI, inP, whP, minP, maxP, c1]; done) | (simp_all [tkR, tkV, bI, inP, whP, minP, maxP]; done)) (bI_nr _) dX1_takes_74
  · refine lv_tableIn (tgt := 75) (off := 71) hx hb dX1_takes_4 (by rw [c1]; decide) (by rw [c1]; decide) (by rw [c1]; decide) (by decide) ?_
    refine lv_aload_n hx hb dX1_takes_75 rfl (lv_at hl 0 rfl) ?_
    refine lv_iload_n hx hb dX1_takes_76 rfl (lv_at hl 1 rfl) ?_
    refine lv_bipush (v := 58) hx hb dX1_takes_77 (by decide) ?_
    refine z_callV1 (rest := []) S (c_X1_takesMark x 58) qm_X1_22 v_X1_takesMark ⟨Nat.le_of_ble_eq_true rfl, Nat.le_of_ble_eq_true rfl⟩ rfl rfl hN hK hP hD hS hA (19 + (2)) ((bk_r).trans (tx_2)) rfl rfl hl.1 rfl (Nat.le_of_ble_eq_true rfl) dX1_takes_79 ⟨Nat.le_of_ble_eq_true rfl, Nat.le_of_ble_eq_true rfl⟩ (fun H locs hP hD hS => ?_)
    exact z_zret hx hb hr hlocks hP hD hK hS (by first | rfl | (simp only [tkR, tkV, bI, inP, whP, minP, maxP, c1, not_true_eq_false, not_false_eq_true, and_self, and_true, true_and, and_false, false_and, or_true, true_or, or_false, false_or, if_true, if_false, ite_true, ite_false]; done) | (simp [tkR, tkV, bI, inP, whP, minP, maxP, c1]; done) | (simp_all [tkR, tkV, bI, inP, whP, minP, maxP]; done)) (by first | rfl | (simp only [tkR, tkV, bI, inP, whP, minP, maxP, c1, not_true_eq_false, not_false_eq_true, and_self, and_true, true_and, and_false, false_and, or_true, true_or, or_false, false_or, if_true, if_false, ite_true, ite_false]; done) | (simp [tkR, tkV, bI, inP, whP, minP, maxP, c1]; done) | (simp_all [tkR, tkV, bI, inP, whP, minP, maxP]; done)) (bI_nr _) dX1_takes_82
  · refine lv_tableOut (tgt := 83) hx hb dX1_takes_4 c1 (by decide) ?_
    refine lv_iload_n hx hb dX1_takes_83 rfl (lv_at hl 1 rfl) ?_
    refine lv_bipush (v := 59) hx hb dX1_takes_84 (by decide) ?_
    refine lv_icmp_ne (tgt := 96) hx hb dX1_takes_86 (by decide) (fun c2 => ?_) (fun c2 => ?_)
    · skip
      refine lv_aload_n hx hb dX1_takes_96 rfl (lv_at hl 0 rfl) ?_
      refine lv_iload_n hx hb dX1_takes_97 rfl (lv_at hl 1 rfl) ?_
      refine lv_bipush (v := 48) hx hb dX1_takes_98 (by decide) ?_
      refine lv_isub hx hb dX1_takes_100  ?_
      refine z_callV1 (rest := []) S (c_X1_takesDigit (x - 48)) qm_X1_36 v_X1_takesDigit ⟨Nat.le_of_ble_eq_true rfl, Nat.le_of_ble_eq_true rfl⟩ rfl rfl hN hK hP hD hS hA (19 + (2)) ((bk_r).trans (tx_2)) rfl rfl hl.1 rfl (Nat.le_of_ble_eq_true rfl) dX1_takes_101 ⟨Nat.le_of_ble_eq_true rfl, Nat.le_of_ble_eq_true rfl⟩ (fun H locs hP hD hS => ?_)
      exact z_zret hx hb hr hlocks hP hD hK hS (by first | rfl | (simp only [tkR, tkV, bI, inP, whP, minP, maxP, z_out4 c1, c2, not_true_eq_false, not_false_eq_true, and_self, and_true, true_and, and_false, false_and, or_true, true_or, or_false, false_or, if_true, if_false, ite_true, ite_false]; done) | (simp [tkR, tkV, bI, inP, whP, minP, maxP, z_out4 c1, c2]; done) | (simp_all [tkR, tkV, bI, inP, whP, minP, maxP]; done)) (by first | rfl | (simp only [tkR, tkV, bI, inP, whP, minP, maxP, z_out4 c1, c2, not_true_eq_false, not_false_eq_true, and_self, and_true, true_and, and_false, false_and, or_true, true_or, or_false, false_or, if_true, if_false, ite_true, ite_false]; done) | (simp [tkR, tkV, bI, inP, whP, minP, maxP, z_out4 c1, c2]; done) | (simp_all [tkR, tkV, bI, inP, whP, minP, maxP]; done)) (bI_nr _) dX1_takes_104
    · skip
      refine lv_aload_n hx hb dX1_takes_89 rfl (lv_at hl 0 rfl) ?_
      refine z_callV1 (rest := []) S (c_X1_takesEnd ) qm_X1_32 v_X1_takesEnd ⟨Nat.le_of_ble_eq_true rfl, Nat.le_of_ble_eq_true rfl⟩ rfl rfl hN hK hP hD hS hA (19 + (2)) ((bk_r).trans (tx_2)) rfl rfl hl.1 rfl (Nat.le_of_ble_eq_true rfl) dX1_takes_90 ⟨Nat.le_of_ble_eq_true rfl, Nat.le_of_ble_eq_true rfl⟩ (fun H locs hP hD hS => ?_)
      refine lv_goto (tgt := 104) hx hb dX1_takes_93 (by decide) ?_
      exact z_zret hx hb hr hlocks hP hD hK hS (by first | rfl | (simp only [tkR, tkV, bI, inP, whP, minP, maxP, z_out4 c1, c2, not_true_eq_false, not_false_eq_true, and_self, and_true, true_and, and_false, false_and, or_true, true_or, or_false, false_or, if_true, if_false, ite_true, ite_false]; done) | (simp [tkR, tkV, bI, inP, whP, minP, maxP, z_out4 c1, c2]; done) | (simp_all [tkR, tkV, bI, inP, whP, minP, maxP]; done)) (by first | rfl | (simp only [tkR, tkV, bI, inP, whP, minP, maxP, z_out4 c1, c2, not_true_eq_false, not_false_eq_true, and_self, and_true, true_and, and_false, false_and, or_true, true_or, or_false, false_or, if_true, if_false, ite_true, ite_false]; done) | (simp [tkR, tkV, bI, inP, whP, minP, maxP, z_out4 c1, c2]; done) | (simp_all [tkR, tkV, bI, inP, whP, minP, maxP]; done)) (bI_nr _) dX1_takes_104
set_option maxHeartbeats 4000000 in
set_option maxRecDepth 100000 in
theorem c_X2_findError {t : Nat → Nat} {sg : Nat → Int32} {r : Nat → Int32} {n : Nat} (hn6 : n ≤ 60) : zM l D (zT cI cC cM cB cJ) yX2_findError cX2_findError 2 (some .int) ({ frames := 4, cells := 0, slots := 0, locals := 84 } : Room) [.ref (t 0)] (bkW cI cM ad z (txW cC t sg (nI n) r wr)) (bkW cI cM ad z (txW cC t sg (nI n) (feR sg (rstR r) 0 n) wr)) (some (.int (nI (feN sg (rstR r) 0 n)))) 0 0 := by
  refine z_enter (by decide) (Nat.le_of_ble_eq_true rfl) ?_
  intro p e s m below meth c A S hr hlocks hnm hN hA hK hP hD hS ls hl
  obtain ⟨hx, hb, hml, hown, hts⟩ := id S
  have hl : lv_has ls 2 [(0, .ref (t 0))] := hl
  have hP : va_P D vwCl (bkW cI cM ad z (txW cC t sg (nI n) r wr)) s.heap := hP
  have hD : va_D A (bkW cI cM ad z (txW cC t sg (nI n) r wr)) := hD
  refine lv_aload_n hx hb dX2_findError_0 rfl (lv_at hl 0 rfl) ?_
  refine va_get (v := .ref (t 2)) hx hb hts inTX2 hown hK hP (19 + (0)) ((bk_r).trans (tx_0)) rfl 1 (by decide) (hts _ qf_X2_18) (fun _ h9 => h9) (rfl) dX2_findError_1 ?_
  refine z_callV0 (rest := []) S (c_X1_restart ) qm_X2_26 v_X1_restart ⟨Nat.le_of_ble_eq_true rfl, Nat.le_of_ble_eq_true rfl⟩ rfl rfl hN hK hP hD hS hA (19 + (2)) ((bk_r).trans (tx_2)) rfl rfl hl.1 rfl (Nat.le_of_ble_eq_true rfl) dX2_findError_4 ⟨Nat.le_of_ble_eq_true rfl, Nat.le_of_ble_eq_true rfl⟩ (fun H locs hP hD hS => ?_)
  refine lv_iconst (v := 0) hx hb dX2_findError_7 (by decide) ?_
  refine lv_istore_n (lv' := [(1, .int 0), (0, .ref (t 0))]) hx hb dX2_findError_8 rfl hl (by decide) rfl (fun ls hl => ?_)
  have K9 : ∀ (n9 i : Nat), i + n9 = n → (feN sg (rstR r) 0 n = feN sg (frR sg r i) i (n - i) ∧ feR sg (rstR r) 0 n = feR sg (frR sg r i) i (n - i)) → ∀ (H : Heap) (locs : List Loc), va_P D vwCl (bkW cI cM ad z (txW cC t sg (nI n) (frR sg r i) wr)) H → va_D A (bkW cI cM ad z (txW cC t sg (nI n) (frR sg r i) wr)) → va_S A s.heap H locs → ∀ ls : Array Slot, lv_has ls 2 [(0, .ref (t 0)), (1, .int (nI i))] → W p l e ({ frames := 4, cells := 0, slots := 0, locals := 84 } : Room) s m ([.ref (t 0)] : List Value).toArray below meth c H locs 0 0 (MQ below (zQ D (zT cI cC cM cB cJ) (bkW cI cM ad z (txW cC t sg (nI n) (feR sg (rstR r) 0 n) wr)) (some (.int (nI (feN sg (rstR r) 0 n)))) A) ([.ref (t 0)] : List Value).toArray s 0 0 A) (F0 m 9 ls []) := by
    intro n9
    induction n9 with
    | zero =>
      intro i hi hinv9 H locs hP hD hS ls hl
      have ei : n = i := by omega
      subst ei
      refine lv_iload_n hx hb dX2_findError_9 rfl (lv_at hl 1 rfl) ?_
      refine lv_aload_n hx hb dX2_findError_10 rfl (lv_at hl 0 rfl) ?_
      refine va_get (v := .int (nI n)) hx hb hts inTX2 hown hK hP (19 + (0)) ((bk_r).trans (tx_0)) rfl 2 (by decide) (hts _ qf_X2_22) (fun _ h9 => h9) (rfl) dX2_findError_11 ?_
      refine lv_icmp_ge (tgt := 41) hx hb dX2_findError_14 (by decide) (fun c1 => ?_) (fun c1 => absurd (nI_le (a := n) (b := n) (by omega) (by omega)) c1)
      have c1 := z_nlt c1
      refine lv_aload_n hx hb dX2_findError_41 rfl (lv_at hl 0 rfl) ?_
      refine va_get (v := .int (nI n)) hx hb hts inTX2 hown hK hP (19 + (0)) ((bk_r).trans (tx_0)) rfl 2 (by decide) (hts _ qf_X2_22) (fun _ h9 => h9) (rfl) dX2_findError_42 ?_
      exact z_iret hx hb hr hlocks hP hD hK hS (by rw [(fe_end hinv9).2]) (by rw [(fe_end hinv9).1]) dX2_findError_45
    | succ n9 ih9 =>
      intro i hi hinv9 H locs hP hD hS ls hl
      have li : i < n := by omega
      refine lv_iload_n hx hb dX2_findError_9 rfl (lv_at hl 1 rfl) ?_
      refine lv_aload_n hx hb dX2_findError_10 rfl (lv_at hl 0 rfl) ?_
      refine va_get (v := .int (nI n)) hx hb hts inTX2 hown hK hP (19 + (0)) ((bk_r).trans (tx_0)) rfl 2 (by decide) (hts _ qf_X2_22) (fun _ h9 => h9) (rfl) dX2_findError_11 ?_
      refine lv_icmp_ge (tgt := 41) hx hb dX2_findError_14 (by decide) (fun c2 => absurd c2 (nI_ge (a := i) (b := n) (by omega) (by omega))) (fun c2 => ?_)
      have c2 := z_lt c2
      refine lv_aload_n hx hb dX2_findError_17 rfl (lv_at hl 0 rfl) ?_
      refine va_get (v := .ref (t 2)) hx hb hts inTX2 hown hK hP (19 + (0)) ((bk_r).trans (tx_0)) rfl 1 (by decide) (hts _ qf_X2_18) (fun _ h9 => h9) (rfl) dX2_findError_18 ?_
      refine lv_aload_n hx hb dX2_findError_21 rfl (lv_at hl 0 rfl) ?_
      refine va_get (v := .ref (t 1)) hx hb hts inTX2 hown hK hP (19 + (0)) ((bk_r).trans (tx_0)) rfl 0 (by decide) (hts _ qf_X2_9) (fun _ h9 => h9) (rfl) dX2_findError_22 ?_
      refine lv_iload_n hx hb dX2_findError_25 rfl (lv_at hl 1 rfl) ?_
      refine va_cald hx hb hK hP (19 + (1)) 1 ((bk_r).trans (tx_1)) rfl (vp_in_nI (show i < 60 by omega) (by omega)) dX2_findError_26 ?_
      refine z_top (v2 := .int (sg i)) (congrArg Value.int (congrArg sg (z_cl rfl))) ?_
      refine z_callV1 (rest := []) S (c_X1_takes (sg i)) qm_X2_29 v_X1_takes ⟨Nat.le_of_ble_eq_true rfl, Nat.le_of_ble_eq_true rfl⟩ rfl rfl hN hK hP hD hS hA (19 + (2)) ((bk_r).trans (tx_2)) rfl rfl hl.1 rfl (Nat.le_of_ble_eq_true rfl) dX2_findError_27 ⟨Nat.le_of_ble_eq_true rfl, Nat.le_of_ble_eq_true rfl⟩ (fun H locs hP hD hS => ?_)
      refine lv_if_ne (tgt := 35) hx hb dX2_findError_30 (by decide) (fun c3 => ?_) (fun c3 => ?_)
      · skip
        refine lv_iinc (v := nI (i + 1)) (lv' := [(1, .int (nI (i + 1))), (0, .ref (t 0))]) hx hb dX2_findError_35 hl (k := 1) rfl (nI_1 _) (by decide) rfl (fun ls hl => ?_)
        refine lv_goto (tgt := 9) hx hb dX2_findError_38 (by decide) ?_
        have hP := va_P_eq (w2 := bkW cI cM ad z (txW cC t sg (nI n) (frR sg r (i + 1)) wr)) (rfl) hP
        have hD := va_D_eq (w2 := bkW cI cM ad z (txW cC t sg (nI n) (frR sg r (i + 1)) wr)) (rfl) hD
        exact ih9 (i + 1) (by omega) (fe_inv hinv9 li c3) _ _ hP hD hS ls (lv_sub hl [1, 0] rfl)
      · skip
        refine lv_iload_n hx hb dX2_findError_33 rfl (lv_at hl 1 rfl) ?_
        exact z_iret hx hb hr hlocks hP hD hK hS (by rw [(fe_stop hinv9 li c3).2]) (by rw [(fe_stop hinv9 li c3).1]) dX2_findError_34
  have hl := (congrArg (fun q => lv_has ls 2 [(1, q), (0, .ref (t 0))]) (show Value.int 0 = .int (nI 0) from congrArg Value.int (rfl))).mp hl
  have hP := va_P_eq (w2 := bkW cI cM ad z (txW cC t sg (nI n) (frR sg r 0) wr)) (rfl) hP
  have hD := va_D_eq (w2 := bkW cI cM ad z (txW cC t sg (nI n) (frR sg r 0) wr)) (rfl) hD
  exact K9 n 0 (by omega) ⟨rfl, rfl⟩ _ _ hP hD hS ls (lv_sub hl [1, 0] rfl)
set_option maxHeartbeats 4000000 in
set_option maxRecDepth 100000 in
theorem c_X2_isWholeRow {t : Nat → Nat} {sg : Nat → Int32} {r : Nat → Int32} {n : Nat} (hn6 : n ≤ 60) : zM l D (zT cI cC cM cB cJ) yX2_isWholeRow cX2_isWholeRow 1 (some .boolean) ({ frames := 5, cells := 0, slots := 0, locals := 105 } : Room) [.ref (t 0)] (bkW cI cM ad z (txW cC t sg (nI n) r wr)) (bkW cI cM ad z (txW cC t sg (nI n) (feR sg (rstR r) 0 n) wr)) (some (.int (bI (nI (feN sg (rstR r) 0 n) = nI n ∧ whP (feR sg (rstR r) 0 n))))) 0 0 := by
  refine z_enter (by decide) (Nat.le_of_ble_eq_true rfl) ?_
  intro p e s m below meth c A S hr hlocks hnm hN hA hK hP hD hS ls hl
  obtain ⟨hx, hb, hml, hown, hts⟩ := id S
  have hl : lv_has ls 1 [(0, .ref (t 0))] := hl
  have hP : va_P D vwCl (bkW cI cM ad z (txW cC t sg (nI n) r wr)) s.heap := hP
  have hD : va_D A (bkW cI cM ad z (txW cC t sg (nI n) r wr)) := hD
  refine lv_aload_n hx hb dX2_isWholeRow_0 rfl (lv_at hl 0 rfl) ?_
  refine z_callV1 (rest := []) S (c_X2_findError (n := n) (by omega)) qm_X2_33 v_X2_findError ⟨Nat.le_of_ble_eq_true rfl, Nat.le_of_ble_eq_true rfl⟩ rfl rfl hN hK hP hD hS hA (19 + (0)) ((bk_r).trans (tx_0)) rfl rfl hl.1 rfl (Nat.le_of_ble_eq_true rfl) dX2_isWholeRow_1 ⟨Nat.le_of_ble_eq_true rfl, Nat.le_of_ble_eq_true rfl⟩ (fun H locs hP hD hS => ?_)
  refine lv_aload_n hx hb dX2_isWholeRow_4 rfl (lv_at hl 0 rfl) ?_
  refine va_get (v := .int (nI n)) hx hb hts inTX2 hown hK hP (19 + (0)) ((bk_r).trans (tx_0)) rfl 2 (by decide) (hts _ qf_X2_22) (fun _ h9 => h9) (rfl) dX2_isWholeRow_5 ?_
  refine lv_icmp_ne (tgt := 25) hx hb dX2_isWholeRow_8 (by decide) (fun c1 => ?_) (fun c1 => ?_)
  · skip
    refine lv_iconst (v := 0) hx hb dX2_isWholeRow_25 (by decide) ?_
    exact z_zret hx hb hr hlocks hP hD hK hS (rfl) (by first | rfl | (simp only [bI, minP, maxP, c1, not_true_eq_false, not_false_eq_true, and_self, and_true, true_and, and_false, false_and, or_true, true_or, or_false, false_or, if_true, if_false, ite_true, ite_false]; done) | (simp [bI, minP, maxP, c1]; done) | (simp_all [bI, minP, maxP]; done)) rfl dX2_isWholeRow_26
  · skip
    refine lv_aload_n hx hb dX2_isWholeRow_11 rfl (lv_at hl 0 rfl) ?_
    refine va_get (v := .ref (t 2)) hx hb hts inTX2 hown hK hP (19 + (0)) ((bk_r).trans (tx_0)) rfl 1 (by decide) (hts _ qf_X2_18) (fun _ h9 => h9) (rfl) dX2_isWholeRow_12 ?_
    refine z_callV1 (rest := []) S (c_X1_isDealWhole ) qm_X2_37 v_X1_isDealWhole ⟨Nat.le_of_ble_eq_true rfl, Nat.le_of_ble_eq_true rfl⟩ rfl rfl hN hK hP hD hS hA (19 + (2)) ((bk_r).trans (tx_2)) rfl rfl hl.1 rfl (Nat.le_of_ble_eq_true rfl) dX2_isWholeRow_15 ⟨Nat.le_of_ble_eq_true rfl, Nat.le_of_ble_eq_true rfl⟩ (fun H locs hP hD hS => ?_)
    refine lv_if_eq (tgt := 25) hx hb dX2_isWholeRow_18 (by decide) (fun c2 => ?_) (fun c2 => ?_)
    · have c2 := bI_0 c2
      refine lv_iconst (v := 0) hx hb dX2_isWholeRow_25 (by decide) ?_
      exact z_zret hx hb hr hlocks hP hD hK hS (rfl) (by first | rfl | (simp only [bI, minP, maxP, c1, c2, not_true_eq_false, not_false_eq_true, and_self, and_true, true_and, and_false, false_and, or_true, true_or, or_false, false_or, if_true, if_false, ite_true, ite_false]; done) | (simp [bI, minP, maxP, c1, c2]; done) | (simp_all [bI, minP, maxP]; done)) rfl dX2_isWholeRow_26
    · have c2 := bI_1 c2
      refine lv_iconst (v := 1) hx hb dX2_isWholeRow_21 (by decide) ?_
      refine lv_goto (tgt := 26) hx hb dX2_isWholeRow_22 (by decide) ?_
      exact z_zret hx hb hr hlocks hP hD hK hS (rfl) (by first | rfl | (simp only [bI, minP, maxP, c1, c2, not_true_eq_false, not_false_eq_true, and_self, and_true, true_and, and_false, false_and, or_true, true_or, or_false, false_or, if_true, if_false, ite_true, ite_false]; done) | (simp [bI, minP, maxP, c1, c2]; done) | (simp_all [bI, minP, maxP]; done)) rfl dX2_isWholeRow_26
set_option maxHeartbeats 4000000 in
set_option maxRecDepth 100000 in
theorem c_X2_addSign {t : Nat → Nat} {sg : Nat → Int32} {r : Nat → Int32} {n : Nat} (hn6 : n < 60) {x : Int32} (hxn : vp_nar .char x = x) : zM l D (zT cI cC cM cB cJ) yX2_addSign cX2_addSign 2 none ({ frames := 0, cells := 0, slots := 0, locals := 0 } : Room) [.ref (t 0), .int x] (bkW cI cM ad z (txW cC t sg (nI n) r wr)) (bkW cI cM ad z (txW cC t (upd sg n x) (nI (n + 1)) r wr)) none 0 0 := by
  refine z_enter (by decide) (Nat.le_of_ble_eq_true rfl) ?_
  intro p e s m below meth c A S hr hlocks hnm hN hA hK hP hD hS ls hl
  obtain ⟨hx, hb, hml, hown, hts⟩ := id S
  have hl : lv_has ls 2 [(0, .ref (t 0)), (1, .int x)] := hl
  have hP : va_P D vwCl (bkW cI cM ad z (txW cC t sg (nI n) r wr)) s.heap := hP
  have hD : va_D A (bkW cI cM ad z (txW cC t sg (nI n) r wr)) := hD
  refine lv_aload_n hx hb dX2_addSign_0 rfl (lv_at hl 0 rfl) ?_
  refine va_get (v := .ref (t 1)) hx hb hts inTX2 hown hK hP (19 + (0)) ((bk_r).trans (tx_0)) rfl 0 (by decide) (hts _ qf_X2_9) (fun _ h9 => h9) (rfl) dX2_addSign_1 ?_
  refine lv_aload_n hx hb dX2_addSign_4 rfl (lv_at hl 0 rfl) ?_
  refine va_get (v := .int (nI n)) hx hb hts inTX2 hown hK hP (19 + (0)) ((bk_r).trans (tx_0)) rfl 2 (by decide) (hts _ qf_X2_22) (fun _ h9 => h9) (rfl) dX2_addSign_5 ?_
  refine lv_iload_n hx hb dX2_addSign_8 rfl (lv_at hl 1 rfl) ?_
  refine z_cast (ws2 := bkW cI cM ad z (txW cC t (upd sg n x) (nI n) r wr)) hx hb hK hP hD hS (19 + (1)) 1 ((bk_r).trans (tx_1)) rfl (vp_in_nI (show n < 60 by omega) (by omega)) dX2_addSign_9 ((bk_rs).trans (congrArg (fun w_ => bkW cI cM ad z w_) (tx_w1 rfl (by omega) (hxn)))) (fun H locs hP hD hS => ?_)
  refine lv_aload_n hx hb dX2_addSign_10 rfl (lv_at hl 0 rfl) ?_
  refine lv_dup hx hb dX2_addSign_11 rfl ?_
  refine va_get (v := .int (nI n)) hx hb hts inTX2 hown hK hP (19 + (0)) ((bk_r).trans (tx_0)) rfl 2 (by decide) (hts _ qf_X2_22) (fun _ h9 => h9) (rfl) dX2_addSign_12 ?_
  refine lv_iconst (v := 1) hx hb dX2_addSign_15 (by decide) ?_
  refine lv_iadd hx hb dX2_addSign_16  ?_
  refine z_top (v2 := .int (nI (n + 1))) (congrArg Value.int (nI_1 _)) ?_
  refine z_put (v := .int (nI (n + 1))) (ty := .int) (ws2 := bkW cI cM ad z (txW cC t (upd sg n x) (nI (n + 1)) r wr)) hx hb hts inTX2 tyX2 tyX2_ok nmX2 hown hK hP hD hS (19 + (0)) ((bk_r).trans (tx_0)) rfl 2 (by decide) (hts _ qf_X2_22) (fun _ h9 => h9) rfl (by decide +kernel) (rfl) (rfl) (Nat.le_of_ble_eq_true rfl) dX2_addSign_17 ((bk_rs).trans (congrArg (fun w_ => bkW cI cM ad z w_) (rfl))) (fun H locs hP hD hS => ?_)
  exact z_vret hx hb hr hlocks hP hD hK hS (rfl) (rfl) dX2_addSign_20
end XB

