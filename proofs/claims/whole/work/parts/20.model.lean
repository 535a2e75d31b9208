/-! The reference's object and its five rows. mr: states, length, thrown, read, number, due. -/
def mfl (q : Nat → Nat) (mr : Nat → Int32) (hs : Int64) : List Value := [.ref (q 1), .int (mr 0), .ref (q 2), .int (mr 1), .ref (q 3), .int (mr 2), .ref (q 4), .int (mr 3), .int (mr 4), .int (mr 5), .ref (q 5), .long hs]
def zfn (z : Nat → Int32) : Nat → Int32 := fun k => if k < 142 then z k else 0
def moW (cI : ClassId) (q : Nat → Nat) (z hi tx pa ke mr : Nat → Int32) (hs : Int64) (wr : va_W) : va_W := (q 0, .inr (6, mfl q mr hs)) :: (q 1, .inl (cI, 142, .inl (zfn z))) :: (q 2, .inl (cI, 852, .inl hi)) :: (q 3, .inl (cI, 60, .inl tx)) :: (q 4, .inl (cI, 40, .inl pa)) :: (q 5, .inl (cI, 142, .inl ke)) :: wr
section MO
variable {cI : ClassId} {q : Nat → Nat} {z z2 hi tx pa ke mr : Nat → Int32} {hs : Int64} {wr : va_W} {k : Nat} {i v : Int32}
theorem mo_0 : (moW cI q z hi tx pa ke mr hs wr)[0]? = some (q 0, .inr (6, mfl q mr hs)) := rfl
theorem mo_1 : (moW cI q z hi tx pa ke mr hs wr)[1]? = some (q 1, .inl (cI, 142, .inl (zfn z))) := rfl
theorem mo_2 : (moW cI q z hi tx pa ke mr hs wr)[2]? = some (q 2, .inl (cI, 852, .inl hi)) := rfl
theorem mo_3 : (moW cI q z hi tx pa ke mr hs wr)[3]? = some (q 3, .inl (cI, 60, .inl tx)) := rfl
theorem mo_4 : (moW cI q z hi tx pa ke mr hs wr)[4]? = some (q 4, .inl (cI, 40, .inl pa)) := rfl
theorem mo_5 : (moW cI q z hi tx pa ke mr hs wr)[5]? = some (q 5, .inl (cI, 142, .inl ke)) := rfl
theorem mo_r : (moW cI q z hi tx pa ke mr hs wr)[6 + k]? = wr[k]? := by rw [show 6 + k = k + 1 + 1 + 1 + 1 + 1 + 1 by omega]; rfl
theorem mo_rs {x : Nat × va_E} : (moW cI q z hi tx pa ke mr hs wr).set (6 + k) x = moW cI q z hi tx pa ke mr hs (wr.set k x) := by rw [show 6 + k = k + 1 + 1 + 1 + 1 + 1 + 1 by omega]; rfl
theorem zfn_at (h : k < 142) : zfn z k = z k := if_pos h
theorem zfn_congr (h : ∀ k, k < 142 → z k = z2 k) : zfn z = zfn z2 := by
  funext k
  simp only [zfn]
  split
  · exact h k (by assumption)
  · rfl
theorem moW_congr (h : ∀ k, k < 142 → z k = z2 k) : moW cI q z hi tx pa ke mr hs wr = moW cI q z2 hi tx pa ke mr hs wr := by
  simp only [moW]; rw [zfn_congr h]
theorem mo_w0 {f : Nat} (fs : List Value) (hfs : fs = mfl q (upd mr f v) hs) : (moW cI q z hi tx pa ke mr hs wr).set 0 (q 0, .inr (6, fs)) = moW cI q z hi tx pa ke (upd mr f v) hs wr := by subst hfs; rfl
theorem mo_w1 (hi2 : i.toNatClampNeg = k) (hk : k < 142) : (moW cI q z hi tx pa ke mr hs wr).set 1 (q 1, .inl (cI, 142, .inl (upd (zfn z) i.toNatClampNeg v))) = moW cI q (upd z k v) hi tx pa ke mr hs wr := by
  rw [hi2]
  have e : upd (zfn z) k v = zfn (upd z k v) := by
    funext j
    simp only [zfn, upd]
    by_cases hj : j = k
    · subst hj; rw [if_pos rfl, if_pos hk, if_pos rfl]
    · rw [if_neg hj, if_neg hj]
  rw [e]; rfl
theorem mo_wa2 (hi2 : i.toNatClampNeg = k) : (moW cI q z hi tx pa ke mr hs wr).set 2 (q 2, .inl (cI, 852, .inl (upd hi i.toNatClampNeg v))) = moW cI q z (upd hi k v) tx pa ke mr hs wr := by rw [hi2]; rfl
theorem mo_wa3 (hi2 : i.toNatClampNeg = k) : (moW cI q z hi tx pa ke mr hs wr).set 3 (q 3, .inl (cI, 60, .inl (upd tx i.toNatClampNeg v))) = moW cI q z hi (upd tx k v) pa ke mr hs wr := by rw [hi2]; rfl
theorem mo_wa4 (hi2 : i.toNatClampNeg = k) : (moW cI q z hi tx pa ke mr hs wr).set 4 (q 4, .inl (cI, 40, .inl (upd pa i.toNatClampNeg v))) = moW cI q z hi tx (upd pa k v) ke mr hs wr := by rw [hi2]; rfl
theorem mo_wa5 (hi2 : i.toNatClampNeg = k) : (moW cI q z hi tx pa ke mr hs wr).set 5 (q 5, .inl (cI, 142, .inl (upd ke i.toNatClampNeg v))) = moW cI q z hi tx pa (upd ke k v) mr hs wr := by rw [hi2]; rfl
end MO
theorem mfl_s0 {q : Nat → Nat} {mr : Nat → Int32} {hs : Int64} {v : Int32} : (mfl q mr hs).set 1 (.int v) = mfl q (upd mr 0 v) hs := by simp [mfl, upd]
theorem mfl_s1 {q : Nat → Nat} {mr : Nat → Int32} {hs : Int64} {v : Int32} : (mfl q mr hs).set 3 (.int v) = mfl q (upd mr 1 v) hs := by simp [mfl, upd]
theorem mfl_s2 {q : Nat → Nat} {mr : Nat → Int32} {hs : Int64} {v : Int32} : (mfl q mr hs).set 5 (.int v) = mfl q (upd mr 2 v) hs := by simp [mfl, upd]
theorem mfl_s3 {q : Nat → Nat} {mr : Nat → Int32} {hs : Int64} {v : Int32} : (mfl q mr hs).set 7 (.int v) = mfl q (upd mr 3 v) hs := by simp [mfl, upd]
theorem mfl_s4 {q : Nat → Nat} {mr : Nat → Int32} {hs : Int64} {v : Int32} : (mfl q mr hs).set 8 (.int v) = mfl q (upd mr 4 v) hs := by simp [mfl, upd]
theorem mfl_s5 {q : Nat → Nat} {mr : Nat → Int32} {hs : Int64} {v : Int32} : (mfl q mr hs).set 9 (.int v) = mfl q (upd mr 5 v) hs := by simp [mfl, upd]
def oneP (b : Int32) : Nat → Int32
  | 0 => 0
  | k + 1 => oneP b k + ((b >>> (nI k &&& 31)) &&& 1)
def hasP (m k : Int32) : Prop := ((m >>> (k &&& 31)) &&& 1) = 1

section XB
variable {l : Launch} {D : va_G} {cI cC cM cB cJ : ClassId} {q : Nat → Nat} {z hi tx pa ke mr : Nat → Int32} {hs : Int64} {wr : va_W}
set_option maxHeartbeats 4000000 in
set_option maxRecDepth 100000 in
theorem c_X6_within (v a b : Int32) : zM l D (zT cI cC cM cB cJ) yX6_within cX6_within 3 (some .boolean) ({ frames := 0, cells := 0, slots := 0, locals := 0 } : Room) [.int v, .int a, .int b] (wr) (wr) (some (.int (bI (inP v a b)))) 0 0 := by
  refine z_enter (by decide) (Nat.le_of_ble_eq_true rfl) ?_
  intro p e s m below meth c A S hr hlocks hnm hN hA hK hP hD hS ls hl
  obtain ⟨hx, hb, hml, hown, hts⟩ := id S
  have hl : lv_has ls 3 [(0, .int v), (1, .int a), (2, .int b)] := hl
  have hP : va_P D vwCl (wr) s.heap := hP
  have hD : va_D A (wr) := hD
  refine lv_iload_n hx hb dX6_within_0 rfl (lv_at hl 0 rfl) ?_
  refine lv_iload_n hx hb dX6_within_1 rfl (lv_at hl 1 rfl) ?_
  refine lv_icmp_lt (tgt := 14) hx hb dX6_within_2 (by decide) (fun c1 => ?_) (fun c1 => ?_)
  · skip
    refine lv_iconst (v := 0) hx hb dX6_within_14 (by decide) ?_
    exact z_zret hx hb hr hlocks hP hD hK hS (rfl) (by first | rfl | (simp only [bI, inP, minP, maxP, c1, not_true_eq_false, not_false_eq_true, and_self, and_true, true_and, and_false, false_and, or_true, true_or, or_false, false_or, if_true, if_false, ite_true, ite_false]; done) | (simp [bI, inP, minP, maxP, c1]; done) | (simp_all [bI, inP, minP, maxP]; done)) rfl dX6_within_15
  · skip
    refine lv_iload_n hx hb dX6_within_5 rfl (lv_at hl 0 rfl) ?_
    refine lv_iload_n hx hb dX6_within_6 rfl (lv_at hl 2 rfl) ?_
    refine lv_icmp_gt (tgt := 14) hx hb dX6_within_7 (by decide) (fun c2 => ?_) (fun c2 => ?_)
    · skip
      refine lv_iconst (v := 0) hx hb dX6_within_14 (by decide) ?_
      exact z_zret hx hb hr hlocks hP hD hK hS (rfl) (by first | rfl | (simp only [bI, inP, minP, maxP, c1, c2, not_true_eq_false, not_false_eq_true, and_self, and_true, true_and, and_false, false_and, or_true, true_or, or_false, false_or, if_true, if_false, ite_true, ite_false]; done) | (simp [bI, inP, minP, maxP, c1, c2]; done) | (simp_all [bI, inP, minP, maxP]; done)) rfl dX6_within_15
    · skip
      refine lv_iconst (v := 1) hx hb dX6_within_10 (by decide) ?_
      refine lv_goto (tgt := 15) hx hb dX6_within_11 (by decide) ?_
      exact z_zret hx hb hr hlocks hP hD hK hS (rfl) (by first | rfl | (simp only [bI, inP, minP, maxP, c1, c2, not_true_eq_false, not_false_eq_true, and_self, and_true, true_and, and_false, false_and, or_true, true_or, or_false, false_or, if_true, if_false, ite_true, ite_false]; done) | (simp [bI, inP, minP, maxP, c1, c2]; done) | (simp_all [bI, inP, minP, maxP]; done)) rfl dX6_within_15
set_option maxHeartbeats 4000000 in
set_option maxRecDepth 100000 in
theorem c_X6_isSkill (v : Int32) : zM l D (zT cI cC cM cB cJ) yX6_isSkill cX6_isSkill 1 (some .boolean) ({ frames := 1, cells := 0, slots := 0, locals := 22 } : Room) [.int v] (wr) (wr) (some (.int (bI (sP v)))) 0 0 := by
  refine z_enter (by decide) (Nat.le_of_ble_eq_true rfl) ?_
  intro p e s m below meth c A S hr hlocks hnm hN hA hK hP hD hS ls hl
  obtain ⟨hx, hb, hml, hown, hts⟩ := id S
  have hl : lv_has ls 1 [(0, .int v)] := hl
  have hP : va_P D vwCl (wr) s.heap := hP
  have hD : va_D A (wr) := hD
  refine lv_iload_n hx hb dX6_isSkill_0 rfl (lv_at hl 0 rfl) ?_
  refine lv_iconst (v := 0) hx hb dX6_isSkill_1 (by decide) ?_
  refine lv_iconst (v := 4) hx hb dX6_isSkill_2 (by decide) ?_
  refine z_callS1 (rest := []) S (c_X6_within v 0 4) qm_X6_32 t_X6_within ⟨Nat.le_of_ble_eq_true rfl, Nat.le_of_ble_eq_true rfl⟩ rfl rfl hN hK hP hD hS hA rfl hl.1 rfl (Nat.le_of_ble_eq_true rfl) dX6_isSkill_3 ⟨Nat.le_of_ble_eq_true rfl, Nat.le_of_ble_eq_true rfl⟩ (fun H locs hP hD hS => ?_)
  exact z_zret hx hb hr hlocks hP hD hK hS (rfl) (by first | rfl | (simp only [minP, maxP, not_true_eq_false, not_false_eq_true, and_self, and_true, true_and, and_false, false_and, or_true, true_or, or_false, false_or, if_true, if_false, ite_true, ite_false]; done) | (simp [minP, maxP]; done) | (simp_all [minP, maxP]; done)) (bI_nr _) dX6_isSkill_6
set_option maxHeartbeats 4000000 in
set_option maxRecDepth 100000 in
theorem c_X6_isSetting (v : Int32) : zM l D (zT cI cC cM cB cJ) yX6_isSetting cX6_isSetting 1 (some .boolean) ({ frames := 1, cells := 0, slots := 0, locals := 22 } : Room) [.int v] (wr) (wr) (some (.int (bI (sP v)))) 0 0 := by
  refine z_enter (by decide) (Nat.le_of_ble_eq_true rfl) ?_
  intro p e s m below meth c A S hr hlocks hnm hN hA hK hP hD hS ls hl
  obtain ⟨hx, hb, hml, hown, hts⟩ := id S
  have hl : lv_has ls 1 [(0, .int v)] := hl
  have hP : va_P D vwCl (wr) s.heap := hP
  have hD : va_D A (wr) := hD
  refine lv_iload_n hx hb dX6_isSetting_0 rfl (lv_at hl 0 rfl) ?_
  refine lv_iconst (v := 0) hx hb dX6_isSetting_1 (by decide) ?_
  refine lv_iconst (v := 4) hx hb dX6_isSetting_2 (by decide) ?_
  refine z_callS1 (rest := []) S (c_X6_within v 0 4) qm_X6_32 t_X6_within ⟨Nat.le_of_ble_eq_true rfl, Nat.le_of_ble_eq_true rfl⟩ rfl rfl hN hK hP hD hS hA rfl hl.1 rfl (Nat.le_of_ble_eq_true rfl) dX6_isSetting_3 ⟨Nat.le_of_ble_eq_true rfl, Nat.le_of_ble_eq_true rfl⟩ (fun H locs hP hD hS => ?_)
  exact z_zret hx hb hr hlocks hP hD hK hS (rfl) (by first | rfl | (simp only [minP, maxP, not_true_eq_false, not_false_eq_true, and_self, and_true, true_and, and_false, false_and, or_true, true_or, or_false, false_or, if_true, if_false, ite_true, ite_false]; done) | (simp [minP, maxP]; done) | (simp_all [minP, maxP]; done)) (bI_nr _) dX6_isSetting_6
set_option maxHeartbeats 4000000 in
set_option maxRecDepth 100000 in
theorem c_X6_areMinutes (v : Int32) : zM l D (zT cI cC cM cB cJ) yX6_areMinutes cX6_areMinutes 1 (some .boolean) ({ frames := 1, cells := 0, slots := 0, locals := 22 } : Room) [.int v] (wr) (wr) (some (.int (bI (inP v 1 600)))) 0 0 := by
  refine z_enter (by decide) (Nat.le_of_ble_eq_true rfl) ?_
  intro p e s m below meth c A S hr hlocks hnm hN hA hK hP hD hS ls hl
  obtain ⟨hx, hb, hml, hown, hts⟩ := id S
  have hl : lv_has ls 1 [(0, .int v)] := hl
  have hP : va_P D vwCl (wr) s.heap := hP
  have hD : va_D A (wr) := hD
  refine lv_iload_n hx hb dX6_areMinutes_0 rfl (lv_at hl 0 rfl) ?_
  refine lv_iconst (v := 1) hx hb dX6_areMinutes_1 (by decide) ?_
  refine lv_sipush (v := 600) hx hb dX6_areMinutes_2 (by decide) ?_
  refine z_callS1 (rest := []) S (c_X6_within v 1 600) qm_X6_32 t_X6_within ⟨Nat.le_of_ble_eq_true rfl, Nat.le_of_ble_eq_true rfl⟩ rfl rfl hN hK hP hD hS hA rfl hl.1 rfl (Nat.le_of_ble_eq_true rfl) dX6_areMinutes_5 ⟨Nat.le_of_ble_eq_true rfl, Nat.le_of_ble_eq_true rfl⟩ (fun H locs hP hD hS => ?_)
  exact z_zret hx hb hr hlocks hP hD hK hS (rfl) (by first | rfl | (simp only [minP, maxP, not_true_eq_false, not_false_eq_true, and_self, and_true, true_and, and_false, false_and, or_true, true_or, or_false, false_or, if_true, if_false, ite_true, ite_false]; done) | (simp [minP, maxP]; done) | (simp_all [minP, maxP]; done)) (bI_nr _) dX6_areMinutes_8
set_option maxHeartbeats 4000000 in
set_option maxRecDepth 100000 in
theorem c_X6_has (m_ k : Int32) : zM l D (zT cI cC cM cB cJ) yX6_has cX6_has 2 (some .boolean) ({ frames := 0, cells := 0, slots := 0, locals := 0 } : Room) [.int m_, .int k] (wr) (wr) (some (.int (bI (((m_ >>> (k &&& 31)) &&& 1) = 1)))) 0 0 := by
  refine z_enter (by decide) (Nat.le_of_ble_eq_true rfl) ?_
  intro p e s m below meth c A S hr hlocks hnm hN hA hK hP hD hS ls hl
  obtain ⟨hx, hb, hml, hown, hts⟩ := id S
  have hl : lv_has ls 2 [(0, .int m_), (1, .int k)] := hl
  have hP : va_P D vwCl (wr) s.heap := hP
  have hD : va_D A (wr) := hD
  refine lv_iload_n hx hb dX6_has_0 rfl (lv_at hl 0 rfl) ?_
  refine lv_iload_n hx hb dX6_has_1 rfl (lv_at hl 1 rfl) ?_
  refine lv_ishr hx hb dX6_has_2  ?_
  refine lv_iconst (v := 1) hx hb dX6_has_3 (by decide) ?_
  refine lv_iand hx hb dX6_has_4  ?_
  refine lv_iconst (v := 1) hx hb dX6_has_5 (by decide) ?_
  refine lv_icmp_ne (tgt := 13) hx hb dX6_has_6 (by decide) (fun c1 => ?_) (fun c1 => ?_)
  · skip
    refine lv_iconst (v := 0) hx hb dX6_has_13 (by decide) ?_
    exact z_zret hx hb hr hlocks hP hD hK hS (rfl) (by first | rfl | (simp only [bI, minP, maxP, c1, not_true_eq_false, not_false_eq_true, and_self, and_true, true_and, and_false, false_and, or_true, true_or, or_false, false_or, if_true, if_false, ite_true, ite_false]; done) | (simp [bI, minP, maxP, c1]; done) | (simp_all [bI, minP, maxP]; done)) rfl dX6_has_14
  · skip
    refine lv_iconst (v := 1) hx hb dX6_has_9 (by decide) ?_
    refine lv_goto (tgt := 14) hx hb dX6_has_10 (by decide) ?_
    exact z_zret hx hb hr hlocks hP hD hK hS (rfl) (by first | rfl | (simp only [bI, minP, maxP, c1, not_true_eq_false, not_false_eq_true, and_self, and_true, true_and, and_false, false_and, or_true, true_or, or_false, false_or, if_true, if_false, ite_true, ite_false]; done) | (simp [bI, minP, maxP, c1]; done) | (simp_all [bI, minP, maxP]; done)) rfl dX6_has_14
set_option maxHeartbeats 4000000 in
set_option maxRecDepth 100000 in
theorem c_X6_ones (b : Int32) : zM l D (zT cI cC cM cB cJ) yX6_ones cX6_ones 3 (some .int) ({ frames := 0, cells := 0, slots := 0, locals := 0 } : Room) [.int b] (wr) (wr) (some (.int (oneP b 8))) 0 0 := by
  refine z_enter (by decide) (Nat.le_of_ble_eq_true rfl) ?_
  intro p e s m below meth c A S hr hlocks hnm hN hA hK hP hD hS ls hl
  obtain ⟨hx, hb, hml, hown, hts⟩ := id S
  have hl : lv_has ls 3 [(0, .int b)] := hl
  have hP : va_P D vwCl (wr) s.heap := hP
  have hD : va_D A (wr) := hD
  refine lv_iconst (v := 0) hx hb dX6_ones_0 (by decide) ?_
  refine lv_istore_n (lv' := [(1, .int 0), (0, .int b)]) hx hb dX6_ones_1 rfl hl (by decide) rfl (fun ls hl => ?_)
  refine lv_iconst (v := 0) hx hb dX6_ones_2 (by decide) ?_
  refine lv_istore_n (lv' := [(2, .int 0), (1, .int 0), (0, .int b)]) hx hb dX6_ones_3 rfl hl (by decide) rfl (fun ls hl => ?_)
  have K4 : ∀ (n4 i : Nat), i + n4 = 8 → ∀ (H : Heap) (locs : List Loc), va_P D vwCl (wr) H → va_D A (wr) → va_S A s.heap H locs → ∀ ls : Array Slot, lv_has ls 3 [(0, .int b), (1, .int (oneP b i)), (2, .int (nI i))] → W p l e ({ frames := 0, cells := 0, slots := 0, locals := 0 } : Room) s m ([.int b] : List Value).toArray below meth c H locs 0 0 (MQ below (zQ D (zT cI cC cM cB cJ) (wr) (some (.int (oneP b 8))) A) ([.int b] : List Value).toArray s 0 0 A) (F0 m 4 ls []) := by
    intro n4
    induction n4 with
    | zero =>
      intro i hi H locs hP hD hS ls hl
      have ei : 8 = i := by omega
      subst ei
      refine lv_iload_n hx hb dX6_ones_4 rfl (lv_at hl 2 rfl) ?_
      refine lv_bipush (v := 8) hx hb dX6_ones_5 (by decide) ?_
      refine lv_icmp_ge (tgt := 24) hx hb dX6_ones_7 (by decide) (fun c1 => ?_) (fun c1 => absurd (nI_le (a := 8) (b := 8) (by omega) (by omega)) c1)
      have c1 := z_nlt c1
      refine lv_iload_n hx hb dX6_ones_24 rfl (lv_at hl 1 rfl) ?_
      exact z_iret hx hb hr hlocks hP hD hK hS (rfl) (by first | rfl | (simp only [minP, maxP, c1, not_true_eq_false, not_false_eq_true, and_self, and_true, true_and, and_false, false_and, or_true, true_or, or_false, false_or, if_true, if_false, ite_true, ite_false]; done) | (simp [minP, maxP, c1]; done) | (simp_all [minP, maxP]; done)) dX6_ones_25
    | succ n4 ih4 =>
      intro i hi H locs hP hD hS ls hl
      have li : i < 8 := by omega
      refine lv_iload_n hx hb dX6_ones_4 rfl (lv_at hl 2 rfl) ?_
      refine lv_bipush (v := 8) hx hb dX6_ones_5 (by decide) ?_
      refine lv_icmp_ge (tgt := 24) hx hb dX6_ones_7 (by decide) (fun c2 => absurd c2 (nI_ge (a := i) (b := 8) (by omega) (by omega))) (fun c2 => ?_)
      have c2 := z_lt c2
      refine lv_iload_n hx hb dX6_ones_10 rfl (lv_at hl 1 rfl) ?_
      refine lv_iload_n hx hb dX6_ones_11 rfl (lv_at hl 0 rfl) ?_
      refine lv_iload_n hx hb dX6_ones_12 rfl (lv_at hl 2 rfl) ?_
      refine lv_ishr hx hb dX6_ones_13  ?_
      refine lv_iconst (v := 1) hx hb dX6_ones_14 (by decide) ?_
      refine lv_iand hx hb dX6_ones_15  ?_
      refine lv_iadd hx hb dX6_ones_16  ?_
      refine lv_istore_n (lv' := [(1, .int ((oneP b i) + ((b >>> ((nI i) &&& 31)) &&& 1))), (0, .int b), (2, .int (nI i))]) hx hb dX6_ones_17 rfl hl (by decide) rfl (fun ls hl => ?_)
      refine lv_iinc (v := nI (i + 1)) (lv' := [(2, .int (nI (i + 1))), (1, .int ((oneP b i) + ((b >>> ((nI i) &&& 31)) &&& 1))), (0, .int b)]) hx hb dX6_ones_18 hl (k := 2) rfl (nI_1 _) (by decide) rfl (fun ls hl => ?_)
      refine lv_goto (tgt := 4) hx hb dX6_ones_21 (by decide) ?_
      have hl := (congrArg (fun q => lv_has ls 3 [(2, .int (nI (i + 1))), (1, q), (0, .int b)]) (show Value.int ((oneP b i) + ((b >>> ((nI i) &&& 31)) &&& 1)) = .int (oneP b (i + 1)) from congrArg Value.int (rfl))).mp hl
      exact ih4 (i + 1) (by omega) _ _ hP hD hS ls (lv_sub hl [2, 1, 0] rfl)
  have hl := (congrArg (fun q => lv_has ls 3 [(2, .int 0), (1, q), (0, .int b)]) (show Value.int 0 = .int (oneP b 0) from congrArg Value.int (rfl))).mp hl
  have hl := (congrArg (fun q => lv_has ls 3 [(2, q), (1, .int (oneP b 0)), (0, .int b)]) (show Value.int 0 = .int (nI 0) from congrArg Value.int (rfl))).mp hl
  exact K4 8 0 (by omega) _ _ hP hD hS ls (lv_sub hl [2, 1, 0] rfl)
set_option maxHeartbeats 4000000 in
set_option maxRecDepth 100000 in
theorem c_X6_of (j w i : Nat) (hj : j < 8) (hw : w < 16) (hi2 : 14 + 16 * j + w = i) (v : Int32) (hv : z i = v) : zM l D (zT cI cC cM cB cJ) yX6_of cX6_of 3 (some .int) ({ frames := 0, cells := 0, slots := 0, locals := 0 } : Room) [.ref (q 0), .int (nI j), .int (nI w)] (moW cI q z hi tx pa ke mr hs wr) (moW cI q z hi tx pa ke mr hs wr) (some (.int v)) 0 0 := by
  refine z_enter (by decide) (Nat.le_of_ble_eq_true rfl) ?_
  intro p e s m below meth c A S hr hlocks hnm hN hA hK hP hD hS ls hl
  obtain ⟨hx, hb, hml, hown, hts⟩ := id S
  have hl : lv_has ls 3 [(0, .ref (q 0)), (1, .int (nI j)), (2, .int (nI w))] := hl
  have hP : va_P D vwCl (moW cI q z hi tx pa ke mr hs wr) s.heap := hP
  have hD : va_D A (moW cI q z hi tx pa ke mr hs wr) := hD
  refine lv_aload_n hx hb dX6_of_0 rfl (lv_at hl 0 rfl) ?_
  refine va_get (v := .ref (q 1)) hx hb hts inTX6 hown hK hP (0) (mo_0) rfl 0 (by decide) (hts _ qf_X6_7) (fun _ h9 => h9) (rfl) dX6_of_1 ?_
  refine lv_bipush (v := 14) hx hb dX6_of_4 (by decide) ?_
  refine lv_bipush (v := 16) hx hb dX6_of_6 (by decide) ?_
  refine lv_iload_n hx hb dX6_of_8 rfl (lv_at hl 1 rfl) ?_
  refine lv_imul hx hb dX6_of_9  ?_
  refine z_top (v2 := .int (nI (16 * j))) (congrArg Value.int (pk_mul 16 j)) ?_
  refine lv_iadd hx hb dX6_of_10  ?_
  refine z_top (v2 := .int (nI (14 + (16 * j)))) (congrArg Value.int (nI_add 14 (16 * j))) ?_
  refine lv_iload_n hx hb dX6_of_11 rfl (lv_at hl 2 rfl) ?_
  refine lv_iadd hx hb dX6_of_12  ?_
  refine z_top (v2 := .int (nI (14 + (16 * j) + w))) (congrArg Value.int (nI_add (14 + (16 * j)) w)) ?_
  refine va_iald hx hb hK hP (1) 0 (mo_1) rfl (vp_in_nI (show 14 + (16 * j) + w < 142 by omega) (by omega)) dX6_of_13 ?_
  refine z_top (v2 := .int (z (14 + (16 * j) + w))) (congrArg Value.int (((congrArg (zfn z) (z_cl rfl)).trans (zfn_at (by omega))).trans (rfl))) ?_
  exact z_iret hx hb hr hlocks hP hD hK hS (rfl) (by first | rfl | (simp only [minP, maxP, not_true_eq_false, not_false_eq_true, and_self, and_true, true_and, and_false, false_and, or_true, true_or, or_false, false_or, if_true, if_false, ite_true, ite_false]; done) | (simp [minP, maxP]; done) | (simp_all [minP, maxP]; done)) dX6_of_14
set_option maxHeartbeats 4000000 in
set_option maxRecDepth 100000 in
theorem c_X6_put (j w i : Nat) (hj : j < 8) (hw : w < 16) (hi2 : 14 + 16 * j + w = i) (v : Int32) : zM l D (zT cI cC cM cB cJ) yX6_put cX6_put 4 none ({ frames := 0, cells := 0, slots := 0, locals := 0 } : Room) [.ref (q 0), .int (nI j), .int (nI w), .int v] (moW cI q z hi tx pa ke mr hs wr) (moW cI q (upd z i v) hi tx pa ke mr hs wr) none 0 0 := by
  refine z_enter (by decide) (Nat.le_of_ble_eq_true rfl) ?_
  intro p e s m below meth c A S hr hlocks hnm hN hA hK hP hD hS ls hl
  obtain ⟨hx, hb, hml, hown, hts⟩ := id S
  have hl : lv_has ls 4 [(0, .ref (q 0)), (1, .int (nI j)), (2, .int (nI w)), (3, .int v)] := hl
  have hP : va_P D vwCl (moW cI q z hi tx pa ke mr hs wr) s.heap := hP
  have hD : va_D A (moW cI q z hi tx pa ke mr hs wr) := hD
  refine lv_aload_n hx hb dX6_put_0 rfl (lv_at hl 0 rfl) ?_
  refine va_get (v := .ref (q 1)) hx hb hts inTX6 hown hK hP (0) (mo_0) rfl 0 (by decide) (hts _ qf_X6_7) (fun _ h9 => h9) (rfl) dX6_put_1 ?_
  refine lv_bipush (v := 14) hx hb dX6_put_4 (by decide) ?_
  refine lv_bipush (v := 16) hx hb dX6_put_6 (by decide) ?_
  refine lv_iload_n hx hb dX6_put_8 rfl (lv_at hl 1 rfl) ?_
  refine lv_imul hx hb dX6_put_9  ?_
  refine z_top (v2 := .int (nI (16 * j))) (congrArg Value.int (pk_mul 16 j)) ?_
  refine lv_iadd hx hb dX6_put_10  ?_
  refine z_top (v2 := .int (nI (14 + (16 * j)))) (congrArg Value.int (nI_add 14 (16 * j))) ?_
  refine lv_iload_n hx hb dX6_put_11 rfl (lv_at hl 2 rfl) ?_
  refine lv_iadd hx hb dX6_put_12  ?_
  refine z_top (v2 := .int (nI (14 + (16 * j) + w))) (congrArg Value.int (nI_add (14 + (16 * j)) w)) ?_
  refine lv_iload_n hx hb dX6_put_13 rfl (lv_at hl 3 rfl) ?_
  refine z_iast (ws2 := moW cI q (upd z (14 + (16 * j) + w) v) hi tx pa ke mr hs wr) hx hb hK hP hD hS (1) 0 (mo_1) rfl (vp_in_nI (show 14 + (16 * j) + w < 142 by omega) (by omega)) dX6_put_14 (mo_w1 (z_cl rfl) (by omega)) (fun H locs hP hD hS => ?_)
  exact z_vret hx hb hr hlocks hP hD hK hS (by first | rfl | (simp only [minP, maxP, not_true_eq_false, not_false_eq_true, and_self, and_true, true_and, and_false, false_and, or_true, true_or, or_false, false_or, if_true, if_false, ite_true, ite_false]; done) | (simp [minP, maxP]; done) | (simp_all [minP, maxP]; done)) (rfl) dX6_put_15
set_option maxHeartbeats 4000000 in
set_option maxRecDepth 100000 in
theorem c_X6_add (j w i : Nat) (hj : j < 8) (hw : w < 16) (hi2 : 14 + 16 * j + w = i) (v y : Int32) (hv : z i = y) : zM l D (zT cI cC cM cB cJ) yX6_add cX6_add 4 none ({ frames := 0, cells := 0, slots := 0, locals := 0 } : Room) [.ref (q 0), .int (nI j), .int (nI w), .int v] (moW cI q z hi tx pa ke mr hs wr) (moW cI q (upd z i (y + v)) hi tx pa ke mr hs wr) none 0 0 := by
  refine z_enter (by decide) (Nat.le_of_ble_eq_true rfl) ?_
  intro p e s m below meth c A S hr hlocks hnm hN hA hK hP hD hS ls hl
  obtain ⟨hx, hb, hml, hown, hts⟩ := id S
  have hl : lv_has ls 4 [(0, .ref (q 0)), (1, .int (nI j)), (2, .int (nI w)), (3, .int v)] := hl
  have hP : va_P D vwCl (moW cI q z hi tx pa ke mr hs wr) s.heap := hP
  have hD : va_D A (moW cI q z hi tx pa ke mr hs wr) := hD
  refine lv_aload_n hx hb dX6_add_0 rfl (lv_at hl 0 rfl) ?_
  refine va_get (v := .ref (q 1)) hx hb hts inTX6 hown hK hP (0) (mo_0) rfl 0 (by decide) (hts _ qf_X6_7) (fun _ h9 => h9) (rfl) dX6_add_1 ?_
  refine lv_bipush (v := 14) hx hb dX6_add_4 (by decide) ?_
  refine lv_bipush (v := 16) hx hb dX6_add_6 (by decide) ?_
  refine lv_iload_n hx hb dX6_add_8 rfl (lv_at hl 1 rfl) ?_
  refine lv_imul hx hb dX6_add_9  ?_
  refine z_top (v2 := .int (nI (16 * j))) (congrArg Value.int (pk_mul 16 j)) ?_
  refine lv_iadd hx hb dX6_add_10  ?_
  refine z_top (v2 := .int (nI (14 + (16 * j)))) (congrArg Value.int (nI_add 14 (16 * j))) ?_
  refine lv_iload_n hx hb dX6_add_11 rfl (lv_at hl 2 rfl) ?_
  refine lv_iadd hx hb dX6_add_12  ?_
  refine z_top (v2 := .int (nI (14 + (16 * j) + w))) (congrArg Value.int (nI_add (14 + (16 * j)) w)) ?_
  refine lv_dup2_11 hx hb dX6_add_13 rfl rfl ?_
  refine va_iald hx hb hK hP (1) 0 (mo_1) rfl (vp_in_nI (show 14 + (16 * j) + w < 142 by omega) (by omega)) dX6_add_14 ?_
  refine z_top (v2 := .int (z (14 + (16 * j) + w))) (congrArg Value.int (((congrArg (zfn z) (z_cl rfl)).trans (zfn_at (by omega))).trans (rfl))) ?_
  refine lv_iload_n hx hb dX6_add_15 rfl (lv_at hl 3 rfl) ?_
  refine lv_iadd hx hb dX6_add_16  ?_
  refine z_iast (ws2 := moW cI q (upd z (14 + (16 * j) + w) ((z (14 + (16 * j) + w)) + v)) hi tx pa ke mr hs wr) hx hb hK hP hD hS (1) 0 (mo_1) rfl (vp_in_nI (show 14 + (16 * j) + w < 142 by omega) (by omega)) dX6_add_17 (mo_w1 (z_cl rfl) (by omega)) (fun H locs hP hD hS => ?_)
  exact z_vret hx hb hr hlocks hP hD hK hS (by first | rfl | (simp only [minP, maxP, not_true_eq_false, not_false_eq_true, and_self, and_true, true_and, and_false, false_and, or_true, true_or, or_false, false_or, if_true, if_false, ite_true, ite_false]; done) | (simp [minP, maxP]; done) | (simp_all [minP, maxP]; done)) (rfl) dX6_add_18
set_option maxHeartbeats 4000000 in
set_option maxRecDepth 100000 in
theorem c_X6_thrown  : zM l D (zT cI cC cM cB cJ) yX6_thrown cX6_thrown 1 (some .int) ({ frames := 0, cells := 0, slots := 0, locals := 0 } : Room) [.ref (q 0)] (moW cI q z hi tx pa ke mr hs wr) (moW cI q z hi tx pa ke mr hs wr) (some (.int (mr 2))) 0 0 := by
  refine z_enter (by decide) (Nat.le_of_ble_eq_true rfl) ?_
  intro p e s m below meth c A S hr hlocks hnm hN hA hK hP hD hS ls hl
  obtain ⟨hx, hb, hml, hown, hts⟩ := id S
  have hl : lv_has ls 1 [(0, .ref (q 0))] := hl
  have hP : va_P D vwCl (moW cI q z hi tx pa ke mr hs wr) s.heap := hP
  have hD : va_D A (moW cI q z hi tx pa ke mr hs wr) := hD
  refine lv_aload_n hx hb dX6_thrown_0 rfl (lv_at hl 0 rfl) ?_
  refine va_get (v := .int (mr 2)) hx hb hts inTX6 hown hK hP (0) (mo_0) rfl 5 (by decide) (hts _ qf_X6_25) (fun _ h9 => h9) (rfl) dX6_thrown_1 ?_
  exact z_iret hx hb hr hlocks hP hD hK hS (rfl) (by first | rfl | (simp only [minP, maxP, not_true_eq_false, not_false_eq_true, and_self, and_true, true_and, and_false, false_and, or_true, true_or, or_false, false_or, if_true, if_false, ite_true, ite_false]; done) | (simp [minP, maxP]; done) | (simp_all [minP, maxP]; done)) dX6_thrown_4
end XB

