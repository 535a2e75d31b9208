/-! The law's small methods. -/
theorem t_L_at : zSt yL_at cL_at 2 (some .int) 2 := ⟨⟨qt_L_at, qn_L, qc_L_at⟩, by decide, by decide, by decide +kernel⟩
theorem t_L_ones : zSt yL_ones cL_ones 1 (some .int) 1 := ⟨⟨qt_L_ones, qn_L, qc_L_ones⟩, by decide, by decide, by decide +kernel⟩
theorem t_L_there : zSt yL_there cL_there 4 (some .int) 2 := ⟨⟨qt_L_there, qn_L, qc_L_there⟩, by decide, by decide, by decide +kernel⟩
theorem t_L_value : zSt yL_value cL_value 5 (some .int) 4 := ⟨⟨qt_L_value, qn_L, qc_L_value⟩, by decide, by decide, by decide +kernel⟩
theorem t_L_end : zSt yL_end cL_end 2 none 1 := ⟨⟨qt_L_end, qn_L, qc_L_end⟩, by decide, by decide, by decide +kernel⟩
theorem t_L_look : zSt yL_look cL_look 3 (some .int) 2 := ⟨⟨qt_L_look, qn_L, qc_L_look⟩, by decide, by decide, by decide +kernel⟩
theorem t_L_can : zSt yL_can cL_can 6 (some .boolean) 6 := ⟨⟨qt_L_can, qn_L, qc_L_can⟩, by decide, by decide, by decide +kernel⟩
theorem t_L_members : zSt yL_members cL_members 12 (some .boolean) 5 := ⟨⟨qt_L_members, qn_L, qc_L_members⟩, by decide, by decide, by decide +kernel⟩
theorem t_L_bank : zSt yL_bank cL_bank 13 (some .boolean) 5 := ⟨⟨qt_L_bank, qn_L, qc_L_bank⟩, by decide, by decide, by decide +kernel⟩
theorem t_L_agree : zSt yL_agree cL_agree 9 (some .boolean) 4 := ⟨⟨qt_L_agree, qn_L, qc_L_agree⟩, by decide, by decide, by decide +kernel⟩
theorem t_L_cell : zSt yL_cell cL_cell 2 (some .int) 2 := ⟨⟨qt_L_cell, qn_L, qc_L_cell⟩, by decide, by decide, by decide +kernel⟩
section XL
variable {l : Launch} {D : va_G} {cI cC cM cB cJ : ClassId} {ad t h : Nat → Nat} {ah : Nat → Nat → Nat} {zh : Nat → Nat → Int32} {x na ma : Nat} {sg r : Nat → Int32} {sz : Int32} {z zl : Nat → Int32} {wr : va_W}
/-- a number of the script, or one made up behind its end -/
def celP (xs : Nat → Int32) (L k : Nat) : Int32 := if nI k < nI L then xs k else 706717907 * (nI k + 331)
set_option maxHeartbeats 4000000 in
theorem c_L_cell {w : va_W} {b L : Nat} {xs : Nat → Int32} {k : Nat} (hk : k < 1000) (hL : L ≤ 260) : zS l D (zT cI cC cM cB cJ) yL_cell cL_cell 2 ({ frames := 0, cells := 0, slots := 0, locals := 0 } : Room) [.ref b, .int (nI k)] w b L xs (some (.int (celP xs L k))) := by
  refine z_enterS (by decide) (Nat.le_of_ble_eq_true rfl) ?_
  intro p e s m below meth c A S hr hlocks hX hbl hbA hK hP hD hS ls hl
  obtain ⟨hx, hb, hml, hown, hts⟩ := id S
  have hl : lv_has ls 2 [(0, .ref b), (1, .int (nI k))] := hl
  refine lv_iload_n hx hb dL_cell_0 rfl (lv_at hl 1 rfl) ?_
  refine lv_aload_n hx hb dL_cell_1 rfl (lv_at hl 0 rfl) ?_
  refine va_slen hx hb hX hbl hbA hS dL_cell_2 ?_
  refine lv_icmp_ge (tgt := 12) hx hb dL_cell_3 (by decide) (fun c1 => ?_) (fun c1 => ?_)
  · refine lv_ldc (v := 706717907) hx hb hown (hts _ qo_L_7) dL_cell_12 ?_
    refine lv_iload_n hx hb dL_cell_14 rfl (lv_at hl 1 rfl) ?_
    refine lv_sipush (v := 331) hx hb dL_cell_15 (by decide) ?_
    refine lv_iadd hx hb dL_cell_18 ?_
    refine lv_imul hx hb dL_cell_19 ?_
    exact z_iret hx hb hr hlocks hP hD hK hS rfl (congrArg (fun q => some (Value.int q)) (if_neg (z_nlt c1)).symm) dL_cell_20
  · have c2 : nI k < nI L := z_lt c1
    have c3 : k < L := (nI_ltI (by omega) (by omega)).mp c2
    refine lv_aload_n hx hb dL_cell_6 rfl (lv_at hl 0 rfl) ?_
    refine lv_iload_n hx hb dL_cell_7 rfl (lv_at hl 1 rfl) ?_
    refine va_sld hx hb hX hbl hbA hS (vp_in_nI c3 (by omega)) dL_cell_8 ?_
    refine lv_goto (tgt := 20) hx hb dL_cell_9 (by decide) ?_
    exact z_iret hx hb hr hlocks hP hD hK hS rfl (congrArg (fun q => some (Value.int q)) ((congrArg xs (nI_clamp (by omega))).trans (if_pos c2).symm)) dL_cell_20
set_option maxHeartbeats 4000000 in
set_option maxRecDepth 100000 in
theorem c_L_at (x n : Int32) (hn : ¬ n = 0) : zM l D (zT cI cC cM cB cJ) yL_at cL_at 2 (some .int) ({ frames := 0, cells := 0, slots := 0, locals := 0 } : Room) [.int x, .int n] (wr) (wr) (some (.int (atP x n))) 0 0 := by
  refine z_enter (by decide) (Nat.le_of_ble_eq_true rfl) ?_
  intro p e s m below meth c A S hr hlocks hnm hN hA hK hP hD hS ls hl
  obtain ⟨hx, hb, hml, hown, hts⟩ := id S
  have hl : lv_has ls 2 [(0, .int x), (1, .int n)] := hl
  have hP : va_P D vwCl (wr) s.heap := hP
  have hD : va_D A (wr) := hD
  refine lv_iload_n hx hb dL_at_0 rfl (lv_at hl 0 rfl) ?_
  refine lv_iconst (v := 1) hx hb dL_at_1 (by decide) ?_
  refine lv_iushr (v := usr x 1) hx hb dL_at_2 rfl ?_
  refine lv_iload_n hx hb dL_at_3 rfl (lv_at hl 1 rfl) ?_
  refine lv_irem hx hb dL_at_4 hn ?_
  exact z_iret hx hb hr hlocks hP hD hK hS (rfl) (rfl) dL_at_5
set_option maxHeartbeats 4000000 in
set_option maxRecDepth 100000 in
theorem c_L_ones (b : Int32) : zM l D (zT cI cC cM cB cJ) yL_ones cL_ones 1 (some .int) ({ frames := 0, cells := 0, slots := 0, locals := 0 } : Room) [.int b] (wr) (wr) (some (.int (oneP b 4))) 0 0 := by
  refine z_enter (by decide) (Nat.le_of_ble_eq_true rfl) ?_
  intro p e s m below meth c A S hr hlocks hnm hN hA hK hP hD hS ls hl
  obtain ⟨hx, hb, hml, hown, hts⟩ := id S
  have hl : lv_has ls 1 [(0, .int b)] := hl
  have hP : va_P D vwCl (wr) s.heap := hP
  have hD : va_D A (wr) := hD
  refine lv_iload_n hx hb dL_ones_0 rfl (lv_at hl 0 rfl) ?_
  refine lv_iconst (v := 1) hx hb dL_ones_1 (by decide) ?_
  refine lv_iand hx hb dL_ones_2  ?_
  refine lv_iload_n hx hb dL_ones_3 rfl (lv_at hl 0 rfl) ?_
  refine lv_iconst (v := 1) hx hb dL_ones_4 (by decide) ?_
  refine lv_ishr hx hb dL_ones_5  ?_
  refine lv_iconst (v := 1) hx hb dL_ones_6 (by decide) ?_
  refine lv_iand hx hb dL_ones_7  ?_
  refine lv_iadd hx hb dL_ones_8  ?_
  refine lv_iload_n hx hb dL_ones_9 rfl (lv_at hl 0 rfl) ?_
  refine lv_iconst (v := 2) hx hb dL_ones_10 (by decide) ?_
  refine lv_ishr hx hb dL_ones_11  ?_
  refine lv_iconst (v := 1) hx hb dL_ones_12 (by decide) ?_
  refine lv_iand hx hb dL_ones_13  ?_
  refine lv_iadd hx hb dL_ones_14  ?_
  refine lv_iload_n hx hb dL_ones_15 rfl (lv_at hl 0 rfl) ?_
  refine lv_iconst (v := 3) hx hb dL_ones_16 (by decide) ?_
  refine lv_ishr hx hb dL_ones_17  ?_
  refine lv_iconst (v := 1) hx hb dL_ones_18 (by decide) ?_
  refine lv_iand hx hb dL_ones_19  ?_
  refine lv_iadd hx hb dL_ones_20  ?_
  exact z_iret hx hb hr hlocks hP hD hK hS (rfl) (congrArg (fun q => some (Value.int q)) on4_eq) dL_ones_21
set_option maxHeartbeats 4000000 in
set_option maxRecDepth 100000 in
theorem c_L_there {nx kp kl n : Nat} (hn : n ≤ 4) (hz : zl 5 = nI n) : zM l D (zT cI cC cM cB cJ) yL_there cL_there 4 (some .int) ({ frames := 0, cells := 0, slots := 0, locals := 0 } : Room) [.ref na, .ref ma] (xw0 cI cC cM cB ad z t sg sz r x h ah (nI nx) (nI kp) zh (lwS cI na ma zl kl wr)) (xw0 cI cC cM cB ad z t sg sz r x h ah (nI nx) (nI kp) zh (lwS cI na ma zl kl wr)) (some (.int (sumF zl 0 n))) 0 0 := by
  refine z_enter (by decide) (Nat.le_of_ble_eq_true rfl) ?_
  intro p e s m below meth c A S hr hlocks hnm hN hA hK hP hD hS ls hl
  obtain ⟨hx, hb, hml, hown, hts⟩ := id S
  have hl : lv_has ls 4 [(0, .ref na), (1, .ref ma)] := hl
  have hP : va_P D vwCl (xw0 cI cC cM cB ad z t sg sz r x h ah (nI nx) (nI kp) zh (lwS cI na ma zl kl wr)) s.heap := hP
  have hD : va_D A (xw0 cI cC cM cB ad z t sg sz r x h ah (nI nx) (nI kp) zh (lwS cI na ma zl kl wr)) := hD
  refine lv_iconst (v := 0) hx hb dL_there_0 (by decide) ?_
  refine lv_istore_n (lv' := [(2, .int 0), (0, .ref na), (1, .ref ma)]) hx hb dL_there_1 rfl hl (by decide) rfl (fun ls hl => ?_)
  refine lv_iconst (v := 0) hx hb dL_there_2 (by decide) ?_
  refine lv_istore_n (lv' := [(3, .int 0), (2, .int 0), (0, .ref na), (1, .ref ma)]) hx hb dL_there_3 rfl hl (by decide) rfl (fun ls hl => ?_)
  have K4 : ∀ (n4 i : Nat), i + n4 = n → ∀ (H : Heap) (locs : List Loc), va_P D vwCl (xw0 cI cC cM cB ad z t sg sz r x h ah (nI nx) (nI kp) zh (lwS cI na ma zl kl wr)) H → va_D A (xw0 cI cC cM cB ad z t sg sz r x h ah (nI nx) (nI kp) zh (lwS cI na ma zl kl wr)) → va_S A s.heap H locs → ∀ ls : Array Slot, lv_has ls 4 [(0, .ref na), (1, .ref ma), (2, .int (sumF zl 0 i)), (3, .int (nI i))] → W p l e ({ frames := 0, cells := 0, slots := 0, locals := 0 } : Room) s m ([.ref na, .ref ma] : List Value).toArray below meth c H locs 0 0 (MQ below (zQ D (zT cI cC cM cB cJ) (xw0 cI cC cM cB ad z t sg sz r x h ah (nI nx) (nI kp) zh (lwS cI na ma zl kl wr)) (some (.int (sumF zl 0 n))) A) ([.ref na, .ref ma] : List Value).toArray s 0 0 A) (F0 m 4 ls []) := by
    intro n4
    induction n4 with
    | zero =>
      intro i h_i H locs hP hD hS ls hl
      have ei : n = i := by omega
      subst ei
      refine lv_iload_n hx hb dL_there_4 rfl (lv_at hl 3 rfl) ?_
      refine lv_aload_n hx hb dL_there_5 rfl (lv_at hl 0 rfl) ?_
      refine lv_iconst (v := 0) hx hb dL_there_6 (by decide) ?_
      refine va_iald hx hb hK hP (139 + (0)) 0 ((xw_r).trans (lw_0)) rfl (vp_in_nI (show 0 < 15 by decide) (by omega)) dL_there_7 ?_
      refine z_top (v2 := .int (nI n)) (congrArg Value.int ((nf_0 rfl).trans (hz))) ?_
      refine lv_icmp_ge (tgt := 26) hx hb dL_there_8 (by decide) (fun c1 => ?_) (fun c1 => absurd (nI_le (a := n) (b := n) (by omega) (by omega)) c1)
      have c1 := z_nlt c1
      refine lv_iload_n hx hb dL_there_26 rfl (lv_at hl 2 rfl) ?_
      exact z_iret hx hb hr hlocks hP hD hK hS (rfl) (by first | rfl | (simp only [minP, maxP, c1, not_true_eq_false, not_false_eq_true, and_self, and_true, true_and, and_false, false_and, or_true, true_or, or_false, false_or, if_true, if_false, ite_true, ite_false]; done) | (simp [minP, maxP, c1]; done) | (simp_all [minP, maxP]; done)) dL_there_27
    | succ n4 ih4 =>
      intro i h_i H locs hP hD hS ls hl
      have li : i < n := by omega
      refine lv_iload_n hx hb dL_there_4 rfl (lv_at hl 3 rfl) ?_
      refine lv_aload_n hx hb dL_there_5 rfl (lv_at hl 0 rfl) ?_
      refine lv_iconst (v := 0) hx hb dL_there_6 (by decide) ?_
      refine va_iald hx hb hK hP (139 + (0)) 0 ((xw_r).trans (lw_0)) rfl (vp_in_nI (show 0 < 15 by decide) (by omega)) dL_there_7 ?_
      refine z_top (v2 := .int (nI n)) (congrArg Value.int ((nf_0 rfl).trans (hz))) ?_
      refine lv_icmp_ge (tgt := 26) hx hb dL_there_8 (by decide) (fun c2 => absurd c2 (nI_ge (a := i) (b := n) (by omega) (by omega))) (fun c2 => ?_)
      have c2 := z_lt c2
      refine lv_iload_n hx hb dL_there_11 rfl (lv_at hl 2 rfl) ?_
      refine lv_aload_n hx hb dL_there_12 rfl (lv_at hl 1 rfl) ?_
      refine lv_bipush (v := 16) hx hb dL_there_13 (by decide) ?_
      refine lv_iload_n hx hb dL_there_15 rfl (lv_at hl 3 rfl) ?_
      refine lv_imul hx hb dL_there_16 ?_
      refine z_top (v2 := .int (nI (16 * i))) (congrArg Value.int (pk_mul 16 i)) ?_
      refine va_iald hx hb hK hP (139 + (1)) 0 ((xw_r).trans (lw_1)) rfl (vp_in_nI (show 16 * i < 64 by omega) (by omega)) dL_there_17 ?_
      refine z_top (v2 := .int (zl (14 + 16 * i))) (congrArg Value.int ((lm_at rfl (show 16 * i < 64 by omega) (show 14 + (16 * i) = 14 + 16 * i by omega)).trans (rfl))) ?_
      refine lv_iadd hx hb dL_there_18  ?_
      refine lv_istore_n (lv' := [(2, .int ((sumF zl 0 i) + (zl (14 + 16 * i)))), (0, .ref na), (1, .ref ma), (3, .int (nI i))]) hx hb dL_there_19 rfl hl (by decide) rfl (fun ls hl => ?_)
      refine lv_iinc (v := nI (i + 1)) (lv' := [(3, .int (nI (i + 1))), (2, .int ((sumF zl 0 i) + (zl (14 + 16 * i)))), (0, .ref na), (1, .ref ma)]) hx hb dL_there_20 hl (k := 3) rfl (nI_1 _) (by decide) rfl (fun ls hl => ?_)
      refine lv_goto (tgt := 4) hx hb dL_there_23 (by decide) ?_
      have hl := (congrArg (fun qv_ => lv_has ls 4 [(3, .int (nI (i + 1))), (2, qv_), (0, .ref na), (1, .ref ma)]) (show Value.int ((sumF zl 0 i) + (zl (14 + 16 * i))) = .int (sumF zl 0 (i + 1)) from congrArg Value.int (rfl))).mp hl
      exact ih4 (i + 1) (by omega) _ _ hP hD hS ls (lv_sub hl [2, 3, 1, 0] rfl)
  have hl := (congrArg (fun qv_ => lv_has ls 4 [(3, .int 0), (2, qv_), (0, .ref na), (1, .ref ma)]) (show Value.int 0 = .int (sumF zl 0 0) from congrArg Value.int (by rfl))).mp hl
  have hl := (congrArg (fun qv_ => lv_has ls 4 [(3, qv_), (2, .int (sumF zl 0 0)), (0, .ref na), (1, .ref ma)]) (show Value.int 0 = .int (nI 0) from congrArg Value.int (by rfl))).mp hl
  exact K4 n 0 (by omega) _ _ hP hD hS ls (lv_sub hl [2, 3, 1, 0] rfl)
set_option maxHeartbeats 4000000 in
set_option maxRecDepth 100000 in
theorem c_L_value {nx kp kl : Nat} (a k : Nat) (ha : a < 4) (hk : k < 5) (mn : Int32) : zM l D (zT cI cC cM cB cJ) yL_value cL_value 5 (some .int) ({ frames := 0, cells := 0, slots := 0, locals := 0 } : Room) [.ref ma, .int (nI a), .int (nI k), .int mn] (xw0 cI cC cM cB ad z t sg sz r x h ah (nI nx) (nI kp) zh (lwS cI na ma zl kl wr)) (xw0 cI cC cM cB ad z t sg sz r x h ah (nI nx) (nI kp) zh (lwS cI na ma zl kl wr)) (some (.int (valP (zl (25 + 16 * a + k)) mn))) 0 0 := by
  refine z_enter (by decide) (Nat.le_of_ble_eq_true rfl) ?_
  intro p e s m below meth c A S hr hlocks hnm hN hA hK hP hD hS ls hl
  obtain ⟨hx, hb, hml, hown, hts⟩ := id S
  have hl : lv_has ls 5 [(0, .ref ma), (1, .int (nI a)), (2, .int (nI k)), (3, .int mn)] := hl
  have hP : va_P D vwCl (xw0 cI cC cM cB ad z t sg sz r x h ah (nI nx) (nI kp) zh (lwS cI na ma zl kl wr)) s.heap := hP
  have hD : va_D A (xw0 cI cC cM cB ad z t sg sz r x h ah (nI nx) (nI kp) zh (lwS cI na ma zl kl wr)) := hD
  refine lv_aload_n hx hb dL_value_0 rfl (lv_at hl 0 rfl) ?_
  refine lv_bipush (v := 16) hx hb dL_value_1 (by decide) ?_
  refine lv_iload_n hx hb dL_value_3 rfl (lv_at hl 1 rfl) ?_
  refine lv_imul hx hb dL_value_4 ?_
  refine z_top (v2 := .int (nI (16 * a))) (congrArg Value.int (pk_mul 16 a)) ?_
  refine lv_bipush (v := 11) hx hb dL_value_5 (by decide) ?_
  refine lv_iadd hx hb dL_value_7  ?_
  refine z_top (v2 := .int (nI (16 * a + 11))) (congrArg Value.int (nI_add (16 * a) 11)) ?_
  refine lv_iload_n hx hb dL_value_8 rfl (lv_at hl 2 rfl) ?_
  refine lv_iadd hx hb dL_value_9  ?_
  refine z_top (v2 := .int (nI (16 * a + 11 + k))) (congrArg Value.int (nI_add (16 * a + 11) k)) ?_
  refine va_iald hx hb hK hP (139 + (1)) 0 ((xw_r).trans (lw_1)) rfl (vp_in_nI (show 16 * a + 11 + k < 64 by omega) (by omega)) dL_value_10 ?_
  refine z_top (v2 := .int (zl (25 + 16 * a + k))) (congrArg Value.int ((lm_at rfl (show 16 * a + 11 + k < 64 by omega) (show 14 + (16 * a + 11 + k) = 25 + 16 * a + k by omega)).trans (rfl))) ?_
  refine lv_sipush (v := 300) hx hb dL_value_11 (by decide) ?_
  refine lv_idiv hx hb dL_value_14 (by decide) ?_
  refine lv_istore (lv' := [(4, .int ((zl (25 + 16 * a + k)) / 300)), (0, .ref ma), (1, .int (nI a)), (2, .int (nI k)), (3, .int mn)]) hx hb dL_value_15 hl (by decide) rfl (fun ls hl => ?_)
  refine lv_iload_n hx hb dL_value_17 rfl (lv_at hl 4 rfl) ?_
  refine lv_iload hx hb dL_value_18 (lv_at hl 0 rfl) ?_
  refine lv_bipush (v := 9) hx hb dL_value_20 (by decide) ?_
  refine lv_icmp_le (tgt := 30) hx hb dL_value_22 (by decide) (fun c1 => ?_) (fun c1 => ?_)
  · have c1 := z_nlt c1
    refine lv_bipush (v := 10) hx hb dL_value_30 (by decide) ?_
    refine lv_iload hx hb dL_value_32 (lv_at hl 0 rfl) ?_
    refine lv_iadd hx hb dL_value_34  ?_
    refine lv_imul hx hb dL_value_35  ?_
    refine lv_bipush (v := 10) hx hb dL_value_36 (by decide) ?_
    refine lv_idiv hx hb dL_value_38 (by decide) ?_
    exact z_iret hx hb hr hlocks hP hD hK hS (rfl) (congrArg (fun q => some (Value.int q)) (val_b c1)) dL_value_39
  · have c1 := z_lt c1
    refine lv_bipush (v := 19) hx hb dL_value_25 (by decide) ?_
    refine lv_goto (tgt := 35) hx hb dL_value_27 (by decide) ?_
    refine lv_imul hx hb dL_value_35  ?_
    refine lv_bipush (v := 10) hx hb dL_value_36 (by decide) ?_
    refine lv_idiv hx hb dL_value_38 (by decide) ?_
    exact z_iret hx hb hr hlocks hP hD hK hS (rfl) (congrArg (fun q => some (Value.int q)) (val_a c1)) dL_value_39
set_option maxHeartbeats 4000000 in
set_option maxRecDepth 100000 in
theorem c_L_end {nx kp kl : Nat} : zM l D (zT cI cC cM cB cJ) yL_end cL_end 2 none ({ frames := 0, cells := 0, slots := 0, locals := 0 } : Room) [.ref na] (xw0 cI cC cM cB ad z t sg sz r x h ah (nI nx) (nI kp) zh (lwS cI na ma zl kl wr)) (xw0 cI cC cM cB ad z t sg sz r x h ah (nI nx) (nI kp) zh (lwS cI na ma (endZ zl) kl wr)) none 0 0 := by
  refine z_enter (by decide) (Nat.le_of_ble_eq_true rfl) ?_
  intro p e s m below meth c A S hr hlocks hnm hN hA hK hP hD hS ls hl
  obtain ⟨hx, hb, hml, hown, hts⟩ := id S
  have hl : lv_has ls 2 [(0, .ref na)] := hl
  have hP : va_P D vwCl (xw0 cI cC cM cB ad z t sg sz r x h ah (nI nx) (nI kp) zh (lwS cI na ma zl kl wr)) s.heap := hP
  have hD : va_D A (xw0 cI cC cM cB ad z t sg sz r x h ah (nI nx) (nI kp) zh (lwS cI na ma zl kl wr)) := hD
  refine lv_aload_n hx hb dL_end_0 rfl (lv_at hl 0 rfl) ?_
  refine lv_bipush (v := 11) hx hb dL_end_1 (by decide) ?_
  refine lv_iconst (v := (-1)) hx hb dL_end_3 (by decide) ?_
  refine z_iast (ws2 := xw0 cI cC cM cB ad z t sg sz r x h ah (nI nx) (nI kp) zh (lwS cI na ma (upd zl 10 (-1)) kl wr)) hx hb hK hP hD hS (139 + (0)) 0 ((xw_r).trans (lw_0)) rfl (vp_in_nI (show 11 < 15 by decide) (by omega)) dL_end_4 ((xw_rs).trans (congrArg (fun w_ => xw0 cI cC cM cB ad z t sg sz r x h ah (nI nx) (nI kp) zh w_) (z_ixw (k := 11) rfl (by omega) (fun q_ => (lwS cI na ma zl kl wr).set 0 (na, .inl (cI, 15, .inl (upd (nfn zl kl) q_ (-1))))) (lw_wx (by decide) (by decide) rfl)))) (fun H locs hP hD hS => ?_)
  refine lv_bipush (v := 12) hx hb dL_end_5 (by decide) ?_
  refine lv_istore_n (lv' := [(1, .int 12), (0, .ref na)]) hx hb dL_end_7 rfl hl (by decide) rfl (fun ls hl => ?_)
  refine lv_iload_n hx hb dL_end_8 rfl (lv_at hl 0 rfl) ?_
  refine lv_bipush (v := 15) hx hb dL_end_9 (by decide) ?_
  refine lv_icmp_ge (tgt := 24) hx hb dL_end_11 (by decide) (fun c1 => absurd c1 (by decide)) (fun c1 => ?_)
  have c1 := z_lt c1
  refine lv_aload_n hx hb dL_end_14 rfl (lv_at hl 1 rfl) ?_
  refine lv_iload_n hx hb dL_end_15 rfl (lv_at hl 0 rfl) ?_
  refine lv_iconst (v := 0) hx hb dL_end_16 (by decide) ?_
  refine z_iast (ws2 := xw0 cI cC cM cB ad z t sg sz r x h ah (nI nx) (nI kp) zh (lwS cI na ma (upd (upd zl 10 (-1)) 11 0) kl wr)) hx hb hK hP hD hS (139 + (0)) 0 ((xw_r).trans (lw_0)) rfl (vp_in_nI (show 12 < 15 by decide) (by omega)) dL_end_17 ((xw_rs).trans (congrArg (fun w_ => xw0 cI cC cM cB ad z t sg sz r x h ah (nI nx) (nI kp) zh w_) (z_ixw (k := 12) rfl (by omega) (fun q_ => (lwS cI na ma (upd zl 10 (-1)) kl wr).set 0 (na, .inl (cI, 15, .inl (upd (nfn (upd zl 10 (-1)) kl) q_ 0)))) (lw_wx (by decide) (by decide) rfl)))) (fun H locs hP hD hS => ?_)
  refine lv_iinc (v := 13) (lv' := [(1, .int 13), (0, .ref na)]) hx hb dL_end_18 hl (k := 0) rfl (by decide) (by decide) rfl (fun ls hl => ?_)
  refine lv_goto (tgt := 8) hx hb dL_end_21 (by decide) ?_
  refine lv_iload_n hx hb dL_end_8 rfl (lv_at hl 0 rfl) ?_
  refine lv_bipush (v := 15) hx hb dL_end_9 (by decide) ?_
  refine lv_icmp_ge (tgt := 24) hx hb dL_end_11 (by decide) (fun c2 => absurd c2 (by decide)) (fun c2 => ?_)
  have c2 := z_lt c2
  refine lv_aload_n hx hb dL_end_14 rfl (lv_at hl 1 rfl) ?_
  refine lv_iload_n hx hb dL_end_15 rfl (lv_at hl 0 rfl) ?_
  refine lv_iconst (v := 0) hx hb dL_end_16 (by decide) ?_
  refine z_iast (ws2 := xw0 cI cC cM cB ad z t sg sz r x h ah (nI nx) (nI kp) zh (lwS cI na ma (upd (upd (upd zl 10 (-1)) 11 0) 12 0) kl wr)) hx hb hK hP hD hS (139 + (0)) 0 ((xw_r).trans (lw_0)) rfl (vp_in_nI (show 13 < 15 by decide) (by omega)) dL_end_17 ((xw_rs).trans (congrArg (fun w_ => xw0 cI cC cM cB ad z t sg sz r x h ah (nI nx) (nI kp) zh w_) (z_ixw (k := 13) rfl (by omega) (fun q_ => (lwS cI na ma (upd (upd zl 10 (-1)) 11 0) kl wr).set 0 (na, .inl (cI, 15, .inl (upd (nfn (upd (upd zl 10 (-1)) 11 0) kl) q_ 0)))) (lw_wx (by decide) (by decide) rfl)))) (fun H locs hP hD hS => ?_)
  refine lv_iinc (v := 14) (lv' := [(1, .int 14), (0, .ref na)]) hx hb dL_end_18 hl (k := 0) rfl (by decide) (by decide) rfl (fun ls hl => ?_)
  refine lv_goto (tgt := 8) hx hb dL_end_21 (by decide) ?_
  refine lv_iload_n hx hb dL_end_8 rfl (lv_at hl 0 rfl) ?_
  refine lv_bipush (v := 15) hx hb dL_end_9 (by decide) ?_
  refine lv_icmp_ge (tgt := 24) hx hb dL_end_11 (by decide) (fun c3 => absurd c3 (by decide)) (fun c3 => ?_)
  have c3 := z_lt c3
  refine lv_aload_n hx hb dL_end_14 rfl (lv_at hl 1 rfl) ?_
  refine lv_iload_n hx hb dL_end_15 rfl (lv_at hl 0 rfl) ?_
  refine lv_iconst (v := 0) hx hb dL_end_16 (by decide) ?_
  refine z_iast (ws2 := xw0 cI cC cM cB ad z t sg sz r x h ah (nI nx) (nI kp) zh (lwS cI na ma (upd (upd (upd (upd zl 10 (-1)) 11 0) 12 0) 13 0) kl wr)) hx hb hK hP hD hS (139 + (0)) 0 ((xw_r).trans (lw_0)) rfl (vp_in_nI (show 14 < 15 by decide) (by omega)) dL_end_17 ((xw_rs).trans (congrArg (fun w_ => xw0 cI cC cM cB ad z t sg sz r x h ah (nI nx) (nI kp) zh w_) (z_ixw (k := 14) rfl (by omega) (fun q_ => (lwS cI na ma (upd (upd (upd zl 10 (-1)) 11 0) 12 0) kl wr).set 0 (na, .inl (cI, 15, .inl (upd (nfn (upd (upd (upd zl 10 (-1)) 11 0) 12 0) kl) q_ 0)))) (lw_wx (by decide) (by decide) rfl)))) (fun H locs hP hD hS => ?_)
  refine lv_iinc (v := 15) (lv' := [(1, .int 15), (0, .ref na)]) hx hb dL_end_18 hl (k := 0) rfl (by decide) (by decide) rfl (fun ls hl => ?_)
  refine lv_goto (tgt := 8) hx hb dL_end_21 (by decide) ?_
  refine lv_iload_n hx hb dL_end_8 rfl (lv_at hl 0 rfl) ?_
  refine lv_bipush (v := 15) hx hb dL_end_9 (by decide) ?_
  refine lv_icmp_ge (tgt := 24) hx hb dL_end_11 (by decide) (fun c4 => ?_) (fun c4 => absurd (by decide) c4)
  have c4 := z_nlt c4
  exact z_vret hx hb hr hlocks hP hD hK hS (rfl) (rfl) dL_end_24
end XL
