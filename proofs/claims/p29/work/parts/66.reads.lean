/-! The class' reads, where nothing is thrown. -/
section XM
variable {l : Launch} {D : va_G} {cI cC cM cB cJ : ClassId} {ad ad2 : Nat → Nat} {z z2 : Nat → Int32} {wr : va_W} {t h : Nat → Nat} {ah : Nat → Nat → Nat} {zh : Nat → Nat → Int32} {x : Nat} {sg : Nat → Int32} {r : Nat → Int32} {sz : Int32}
set_option maxHeartbeats 4000000 in
set_option maxRecDepth 100000 in
theorem c_X5_member_m {n : Nat} (hn : n ≤ 8) (hz : z 5 = nI n) {nx kp : Nat} {j q_ : Nat} (hj : j < n) (hq : q_ ≤ 11) : zM l D (zT cI cC cM cB cJ) yX5_member cX5_member 3 (some .int) ({ frames := 6, cells := 0, slots := 0, locals := 90 } : Room) [.ref x, .int (nI j), .int (nI q_)] (bkW cI cM ad z (txW cC t sg sz r (xoW x ad h t (hsW cB h ah (nI nx) (nI kp) (hbW cI cM ah zh wr))))) (bkW cI cM ad z (txW cC t sg sz r (xoW x ad h t (hsW cB h ah (nI nx) (nI kp) (hbW cI cM ah zh wr))))) (some (.int (prpP z j (nI q_)))) 0 0 := by
  have hm_ : ¬ (nI j < 0) ∧ nI j < nI n := ⟨nI_pos (by omega), nI_lt hj (by omega)⟩
  have hw_ : ¬ (nI q_ < 0) ∧ ¬ (11 < nI q_) := ⟨nI_pos (by omega), nI_nlt (b := q_) (a := 11) (by omega) (by omega)⟩
  refine z_enter (by decide) (Nat.le_of_ble_eq_true rfl) ?_
  intro p e s m below meth c A S hr hlocks hnm hN hA hK hP hD hS ls hl
  obtain ⟨hx, hb, hml, hown, hts⟩ := id S
  have hl : lv_has ls 3 [(0, .ref x), (1, .int (nI j)), (2, .int (nI q_))] := hl
  have hP : va_P D vwCl (bkW cI cM ad z (txW cC t sg sz r (xoW x ad h t (hsW cB h ah (nI nx) (nI kp) (hbW cI cM ah zh wr))))) s.heap := hP
  have hD : va_D A (bkW cI cM ad z (txW cC t sg sz r (xoW x ad h t (hsW cB h ah (nI nx) (nI kp) (hbW cI cM ah zh wr))))) := hD
  refine lv_aload_n hx hb dX5_member_0 rfl (lv_at hl 0 rfl) ?_
  refine va_get (v := .ref (ad 0)) hx hb hts inTX5 hown hK hP (19 + (3 + (0))) ((bk_r).trans ((tx_r).trans (xo_0))) rfl 0 (by decide) (hts _ qf_X5_10) (fun _ h9 => h9) (rfl) dX5_member_1 ?_
  refine lv_iload_n hx hb dX5_member_4 rfl (lv_at hl 1 rfl) ?_
  refine z_callV1 (rest := []) S (c_X0_isMember (n := n) (show n ≤ 8 by omega) (hz) (nI j)) qm_X5_49 v_X0_isMember ⟨Nat.le_of_ble_eq_true rfl, Nat.le_of_ble_eq_true rfl⟩ rfl rfl hN hK hP hD hS hA (0) (bk_0) rfl rfl hl.1 rfl (Nat.le_of_ble_eq_true rfl) dX5_member_5 ⟨Nat.le_of_ble_eq_true rfl, Nat.le_of_ble_eq_true rfl⟩ (fun H locs hP hD hS => ?_)
  refine lv_if_ne (tgt := 21) hx hb dX5_member_8 (by decide) (fun c1 => ?_) (fun c1 => absurd c1 (bI_n0 hm_))
  have c1 := bI_1 c1
  refine lv_iload_n hx hb dX5_member_21 rfl (lv_at hl 2 rfl) ?_
  refine lv_iconst (v := 0) hx hb dX5_member_22 (by decide) ?_
  refine lv_bipush (v := 11) hx hb dX5_member_23 (by decide) ?_
  refine z_callS1 (rest := []) S (c_X5_isWithin (nI q_) 0 11) qm_X5_100 t_X5_isWithin ⟨Nat.le_of_ble_eq_true rfl, Nat.le_of_ble_eq_true rfl⟩ rfl rfl hN hK hP hD hS hA rfl hl.1 rfl (Nat.le_of_ble_eq_true rfl) dX5_member_25 ⟨Nat.le_of_ble_eq_true rfl, Nat.le_of_ble_eq_true rfl⟩ (fun H locs hP hD hS => ?_)
  refine lv_if_ne (tgt := 41) hx hb dX5_member_28 (by decide) (fun c2 => ?_) (fun c2 => absurd c2 (bI_n0 hw_))
  have c2 := bI_1 c2
  refine lv_aload_n hx hb dX5_member_41 rfl (lv_at hl 0 rfl) ?_
  refine va_get (v := .ref (ad 0)) hx hb hts inTX5 hown hK hP (19 + (3 + (0))) ((bk_r).trans ((tx_r).trans (xo_0))) rfl 0 (by decide) (hts _ qf_X5_10) (fun _ h9 => h9) (rfl) dX5_member_42 ?_
  refine lv_iload_n hx hb dX5_member_45 rfl (lv_at hl 1 rfl) ?_
  refine lv_iload_n hx hb dX5_member_46 rfl (lv_at hl 2 rfl) ?_
  refine z_callV1 (rest := []) S (c_X0_memberProperty j (show j < 8 by omega) (nI q_)) qm_X5_206 v_X0_memberProperty ⟨Nat.le_of_ble_eq_true rfl, Nat.le_of_ble_eq_true rfl⟩ rfl rfl hN hK hP hD hS hA (0) (bk_0) rfl rfl hl.1 rfl (Nat.le_of_ble_eq_true rfl) dX5_member_47 ⟨Nat.le_of_ble_eq_true rfl, Nat.le_of_ble_eq_true rfl⟩ (fun H locs hP hD hS => ?_)
  exact z_iret hx hb hr hlocks hP hD hK hS (rfl) (by first | rfl | (simp only [minP, maxP, hm_, hw_, c1, c2, not_true_eq_false, not_false_eq_true, and_self, and_true, true_and, and_false, false_and, or_true, true_or, or_false, false_or, if_true, if_false, ite_true, ite_false]; done) | (simp [minP, maxP, hm_, hw_, c1, c2]; done) | (simp_all [minP, maxP]; done)) dX5_member_50
set_option maxHeartbeats 4000000 in
set_option maxRecDepth 100000 in
theorem c_X5_skill_m {n : Nat} (hn : n ≤ 8) (hz : z 5 = nI n) {nx kp : Nat} {j k : Nat} (hj : j < n) (hk : k < 5) : zM l D (zT cI cC cM cB cJ) yX5_skill cX5_skill 4 (some .int) ({ frames := 6, cells := 0, slots := 0, locals := 90 } : Room) [.ref x, .int (nI j), .int (nI k), .int 0] (bkW cI cM ad z (txW cC t sg sz r (xoW x ad h t (hsW cB h ah (nI nx) (nI kp) (hbW cI cM ah zh wr))))) (bkW cI cM ad z (txW cC t sg sz r (xoW x ad h t (hsW cB h ah (nI nx) (nI kp) (hbW cI cM ah zh wr))))) (some (.int (z (25 + 16 * j + k)))) 0 0 := by
  have hm_ : ¬ (nI j < 0) ∧ nI j < nI n := ⟨nI_pos (by omega), nI_lt hj (by omega)⟩
  have hs_ : ¬ (nI k < 0) ∧ ¬ (4 < nI k) := ⟨nI_pos (by omega), nI_nlt (b := k) (a := 4) (by omega) (by omega)⟩
  have hw_ : ¬ ((0 : Int32) < 0) ∧ ¬ ((1 : Int32) < 0) := by decide
  refine z_enter (by decide) (Nat.le_of_ble_eq_true rfl) ?_
  intro p e s m below meth c A S hr hlocks hnm hN hA hK hP hD hS ls hl
  obtain ⟨hx, hb, hml, hown, hts⟩ := id S
  have hl : lv_has ls 4 [(0, .ref x), (1, .int (nI j)), (2, .int (nI k)), (3, .int 0)] := hl
  have hP : va_P D vwCl (bkW cI cM ad z (txW cC t sg sz r (xoW x ad h t (hsW cB h ah (nI nx) (nI kp) (hbW cI cM ah zh wr))))) s.heap := hP
  have hD : va_D A (bkW cI cM ad z (txW cC t sg sz r (xoW x ad h t (hsW cB h ah (nI nx) (nI kp) (hbW cI cM ah zh wr))))) := hD
  refine lv_aload_n hx hb dX5_skill_0 rfl (lv_at hl 0 rfl) ?_
  refine va_get (v := .ref (ad 0)) hx hb hts inTX5 hown hK hP (19 + (3 + (0))) ((bk_r).trans ((tx_r).trans (xo_0))) rfl 0 (by decide) (hts _ qf_X5_10) (fun _ h9 => h9) (rfl) dX5_skill_1 ?_
  refine lv_iload_n hx hb dX5_skill_4 rfl (lv_at hl 1 rfl) ?_
  refine z_callV1 (rest := []) S (c_X0_isMember (n := n) (show n ≤ 8 by omega) (hz) (nI j)) qm_X5_49 v_X0_isMember ⟨Nat.le_of_ble_eq_true rfl, Nat.le_of_ble_eq_true rfl⟩ rfl rfl hN hK hP hD hS hA (0) (bk_0) rfl rfl hl.1 rfl (Nat.le_of_ble_eq_true rfl) dX5_skill_5 ⟨Nat.le_of_ble_eq_true rfl, Nat.le_of_ble_eq_true rfl⟩ (fun H locs hP hD hS => ?_)
  refine lv_if_eq (tgt := 18) hx hb dX5_skill_8 (by decide) (fun c1 => absurd c1 (bI_n0 hm_)) (fun c1 => ?_)
  have c1 := bI_1 c1
  refine lv_iload_n hx hb dX5_skill_11 rfl (lv_at hl 2 rfl) ?_
  refine z_callS1 (rest := []) S (c_X5_isSkill (nI k)) qm_X5_77 t_X5_isSkill ⟨Nat.le_of_ble_eq_true rfl, Nat.le_of_ble_eq_true rfl⟩ rfl rfl hN hK hP hD hS hA rfl hl.1 rfl (Nat.le_of_ble_eq_true rfl) dX5_skill_12 ⟨Nat.le_of_ble_eq_true rfl, Nat.le_of_ble_eq_true rfl⟩ (fun H locs hP hD hS => ?_)
  refine lv_if_ne (tgt := 28) hx hb dX5_skill_15 (by decide) (fun c2 => ?_) (fun c2 => absurd c2 (bI_n0 hs_))
  have c2 := bI_1 c2
  refine lv_iload_n hx hb dX5_skill_28 rfl (lv_at hl 3 rfl) ?_
  refine lv_iconst (v := 0) hx hb dX5_skill_29 (by decide) ?_
  refine lv_iconst (v := 1) hx hb dX5_skill_30 (by decide) ?_
  refine z_callS1 (rest := []) S (c_X5_isWithin 0 0 1) qm_X5_100 t_X5_isWithin ⟨Nat.le_of_ble_eq_true rfl, Nat.le_of_ble_eq_true rfl⟩ rfl rfl hN hK hP hD hS hA rfl hl.1 rfl (Nat.le_of_ble_eq_true rfl) dX5_skill_31 ⟨Nat.le_of_ble_eq_true rfl, Nat.le_of_ble_eq_true rfl⟩ (fun H locs hP hD hS => ?_)
  refine lv_if_ne (tgt := 47) hx hb dX5_skill_34 (by decide) (fun c3 => ?_) (fun c3 => absurd c3 (bI_n0 hw_))
  have c3 := bI_1 c3
  refine lv_iload_n hx hb dX5_skill_47 rfl (lv_at hl 3 rfl) ?_
  refine lv_if_ne (tgt := 68) hx hb dX5_skill_48 (by decide) (fun c4 => absurd c4 (by decide)) (fun c4 => ?_)
  refine lv_aload_n hx hb dX5_skill_51 rfl (lv_at hl 0 rfl) ?_
  refine va_get (v := .ref (ad 0)) hx hb hts inTX5 hown hK hP (19 + (3 + (0))) ((bk_r).trans ((tx_r).trans (xo_0))) rfl 0 (by decide) (hts _ qf_X5_10) (fun _ h9 => h9) (rfl) dX5_skill_52 ?_
  refine va_get (v := .ref (ad 1)) hx hb hts inTX0 hown hK hP (0) (bk_0) rfl 0 (by decide) (hts _ qf_X5_58) (fun _ h9 => h9) (rfl) dX5_skill_55 ?_
  refine lv_iload_n hx hb dX5_skill_58 rfl (lv_at hl 1 rfl) ?_
  refine va_aldq hx hb hK hP (1) 2 (bk_1) rfl (vp_in_nI (show j < 8 by omega) (by omega)) dX5_skill_59 ?_
  refine z_top (v2 := .ref (ad (3 + j))) (z_rf rfl) ?_
  refine va_get (v := .ref (ad (11 + j))) hx hb hts inTX4 hown hK hP (3 + j) (bk_m (show j < 8 by omega)) rfl 0 (by decide) (hts _ qf_X5_212) (fun _ h9 => h9) (rfl) dX5_skill_60 ?_
  refine lv_iload_n hx hb dX5_skill_63 rfl (lv_at hl 2 rfl) ?_
  refine va_iald hx hb hK hP (11 + j) 0 (bk_p (show j < 8 by omega)) rfl (vp_in_nI (show k < 5 by omega) (by omega)) dX5_skill_64 ?_
  refine z_top (v2 := .int (z (25 + 16 * j + k))) (congrArg Value.int ((pfn_at rfl (show k < 5 by omega)).trans (rfl))) ?_
  refine lv_goto (tgt := 81) hx hb dX5_skill_65 (by decide) ?_
  exact z_iret hx hb hr hlocks hP hD hK hS (rfl) (by first | rfl | (simp only [minP, maxP, hm_, hs_, hw_, c1, c2, c3, c4, not_true_eq_false, not_false_eq_true, and_self, and_true, true_and, and_false, false_and, or_true, true_or, or_false, false_or, if_true, if_false, ite_true, ite_false]; done) | (simp [minP, maxP, hm_, hs_, hw_, c1, c2, c3, c4]; done) | (simp_all [minP, maxP]; done)) dX5_skill_81
set_option maxHeartbeats 4000000 in
set_option maxRecDepth 100000 in
theorem c_X5_count_m {n : Nat} (hn : n ≤ 8) (hz : z 5 = nI n) {nx kp : Nat} (xx : Int32) (hx3 : ¬ (xx < 0) ∧ ¬ (13 < xx)) : zM l D (zT cI cC cM cB cJ) yX5_count cX5_count 2 (some .int) ({ frames := 6, cells := 0, slots := 0, locals := 90 } : Room) [.ref x, .int xx] (bkW cI cM ad z (txW cC t sg sz r (xoW x ad h t (hsW cB h ah (nI nx) (nI kp) (hbW cI cM ah zh wr))))) (bkW cI cM ad z (txW cC t sg sz r (xoW x ad h t (hsW cB h ah (nI nx) (nI kp) (hbW cI cM ah zh wr))))) (some (.int (numP z n kp xx))) 0 0 := by
  refine z_enter (by decide) (Nat.le_of_ble_eq_true rfl) ?_
  intro p e s m below meth c A S hr hlocks hnm hN hA hK hP hD hS ls hl
  obtain ⟨hx, hb, hml, hown, hts⟩ := id S
  have hl : lv_has ls 2 [(0, .ref x), (1, .int xx)] := hl
  have hP : va_P D vwCl (bkW cI cM ad z (txW cC t sg sz r (xoW x ad h t (hsW cB h ah (nI nx) (nI kp) (hbW cI cM ah zh wr))))) s.heap := hP
  have hD : va_D A (bkW cI cM ad z (txW cC t sg sz r (xoW x ad h t (hsW cB h ah (nI nx) (nI kp) (hbW cI cM ah zh wr))))) := hD
  refine lv_iload_n hx hb dX5_count_0 rfl (lv_at hl 1 rfl) ?_
  refine lv_iconst (v := 0) hx hb dX5_count_1 (by decide) ?_
  refine lv_bipush (v := 13) hx hb dX5_count_2 (by decide) ?_
  refine z_callS1 (rest := []) S (c_X5_isWithin xx 0 13) qm_X5_100 t_X5_isWithin ⟨Nat.le_of_ble_eq_true rfl, Nat.le_of_ble_eq_true rfl⟩ rfl rfl hN hK hP hD hS hA rfl hl.1 rfl (Nat.le_of_ble_eq_true rfl) dX5_count_4 ⟨Nat.le_of_ble_eq_true rfl, Nat.le_of_ble_eq_true rfl⟩ (fun H locs hP hD hS => ?_)
  refine lv_if_ne (tgt := 20) hx hb dX5_count_7 (by decide) (fun c1 => ?_) (fun c1 => absurd c1 (bI_n0 hx3))
  have c1 := bI_1 c1
  refine lv_aload_n hx hb dX5_count_20 rfl (lv_at hl 0 rfl) ?_
  refine lv_iload_n hx hb dX5_count_21 rfl (lv_at hl 1 rfl) ?_
  refine z_callV1 (rest := []) S (c_X5_number (n := n) (show n ≤ 8 by omega) (hz) xx) qm_X5_220 v_X5_number ⟨Nat.le_of_ble_eq_true rfl, Nat.le_of_ble_eq_true rfl⟩ rfl rfl hN hK hP hD hS hA (19 + (3 + (0))) ((bk_r).trans ((tx_r).trans (xo_0))) rfl rfl hl.1 rfl (Nat.le_of_ble_eq_true rfl) dX5_count_22 ⟨Nat.le_of_ble_eq_true rfl, Nat.le_of_ble_eq_true rfl⟩ (fun H locs hP hD hS => ?_)
  exact z_iret hx hb hr hlocks hP hD hK hS (rfl) (by first | rfl | (simp only [minP, maxP, hx3, c1, not_true_eq_false, not_false_eq_true, and_self, and_true, true_and, and_false, false_and, or_true, true_or, or_false, false_or, if_true, if_false, ite_true, ite_false]; done) | (simp [minP, maxP, hx3, c1]; done) | (simp_all [minP, maxP]; done)) dX5_count_25
set_option maxHeartbeats 4000000 in
set_option maxRecDepth 100000 in
theorem c_X5_cheapest_m {n : Nat} (hn : n ≤ 8) (hz : z 5 = nI n) {nx kp : Nat} {j k : Nat} (hj : j < n) (hk : k < 5) (mn : Int32) (hh_ : ¬ (mn < 1) ∧ ¬ (600 < mn)) : zM l D (zT cI cC cM cB cJ) yX5_cheapest cX5_cheapest 4 (some .int) ({ frames := 6, cells := 0, slots := 0, locals := 136 } : Room) [.ref x, .int (nI j), .int (nI k), .int mn] (bkW cI cM ad z (txW cC t sg sz r (xoW x ad h t (hsW cB h ah (nI nx) (nI kp) (hbW cI cM ah zh wr))))) (bkW cI cM ad z (txW cC t sg sz r (xoW x ad h t (hsW cB h ah (nI nx) (nI kp) (hbW cI cM ah zh wr))))) (some (.int (chG z n j k mn n))) 0 0 := by
  have hm_ : ¬ (nI j < 0) ∧ nI j < nI n := ⟨nI_pos (by omega), nI_lt hj (by omega)⟩
  have hs_ : ¬ (nI k < 0) ∧ ¬ (4 < nI k) := ⟨nI_pos (by omega), nI_nlt (b := k) (a := 4) (by omega) (by omega)⟩
  refine z_enter (by decide) (Nat.le_of_ble_eq_true rfl) ?_
  intro p e s m below meth c A S hr hlocks hnm hN hA hK hP hD hS ls hl
  obtain ⟨hx, hb, hml, hown, hts⟩ := id S
  have hl : lv_has ls 4 [(0, .ref x), (1, .int (nI j)), (2, .int (nI k)), (3, .int mn)] := hl
  have hP : va_P D vwCl (bkW cI cM ad z (txW cC t sg sz r (xoW x ad h t (hsW cB h ah (nI nx) (nI kp) (hbW cI cM ah zh wr))))) s.heap := hP
  have hD : va_D A (bkW cI cM ad z (txW cC t sg sz r (xoW x ad h t (hsW cB h ah (nI nx) (nI kp) (hbW cI cM ah zh wr))))) := hD
  refine lv_aload_n hx hb dX5_cheapest_0 rfl (lv_at hl 0 rfl) ?_
  refine va_get (v := .ref (ad 0)) hx hb hts inTX5 hown hK hP (19 + (3 + (0))) ((bk_r).trans ((tx_r).trans (xo_0))) rfl 0 (by decide) (hts _ qf_X5_10) (fun _ h9 => h9) (rfl) dX5_cheapest_1 ?_
  refine lv_iload_n hx hb dX5_cheapest_4 rfl (lv_at hl 1 rfl) ?_
  refine z_callV1 (rest := []) S (c_X0_isMember (n := n) (show n ≤ 8 by omega) (hz) (nI j)) qm_X5_49 v_X0_isMember ⟨Nat.le_of_ble_eq_true rfl, Nat.le_of_ble_eq_true rfl⟩ rfl rfl hN hK hP hD hS hA (0) (bk_0) rfl rfl hl.1 rfl (Nat.le_of_ble_eq_true rfl) dX5_cheapest_5 ⟨Nat.le_of_ble_eq_true rfl, Nat.le_of_ble_eq_true rfl⟩ (fun H locs hP hD hS => ?_)
  refine lv_if_eq (tgt := 18) hx hb dX5_cheapest_8 (by decide) (fun c1 => absurd c1 (bI_n0 hm_)) (fun c1 => ?_)
  have c1 := bI_1 c1
  refine lv_iload_n hx hb dX5_cheapest_11 rfl (lv_at hl 2 rfl) ?_
  refine z_callS1 (rest := []) S (c_X5_isSkill (nI k)) qm_X5_77 t_X5_isSkill ⟨Nat.le_of_ble_eq_true rfl, Nat.le_of_ble_eq_true rfl⟩ rfl rfl hN hK hP hD hS hA rfl hl.1 rfl (Nat.le_of_ble_eq_true rfl) dX5_cheapest_12 ⟨Nat.le_of_ble_eq_true rfl, Nat.le_of_ble_eq_true rfl⟩ (fun H locs hP hD hS => ?_)
  refine lv_if_ne (tgt := 28) hx hb dX5_cheapest_15 (by decide) (fun c2 => ?_) (fun c2 => absurd c2 (bI_n0 hs_))
  have c2 := bI_1 c2
  refine lv_iload_n hx hb dX5_cheapest_28 rfl (lv_at hl 3 rfl) ?_
  refine z_callS1 (rest := []) S (c_X5_isDealMinutes mn) qm_X5_82 t_X5_isDealMinutes ⟨Nat.le_of_ble_eq_true rfl, Nat.le_of_ble_eq_true rfl⟩ rfl rfl hN hK hP hD hS hA rfl hl.1 rfl (Nat.le_of_ble_eq_true rfl) dX5_cheapest_29 ⟨Nat.le_of_ble_eq_true rfl, Nat.le_of_ble_eq_true rfl⟩ (fun H locs hP hD hS => ?_)
  refine lv_if_ne (tgt := 45) hx hb dX5_cheapest_32 (by decide) (fun c3 => ?_) (fun c3 => absurd c3 (bI_n0 hh_))
  have c3 := bI_1 c3
  refine lv_aload_n hx hb dX5_cheapest_45 rfl (lv_at hl 0 rfl) ?_
  refine va_get (v := .ref (ad 0)) hx hb hts inTX5 hown hK hP (19 + (3 + (0))) ((bk_r).trans ((tx_r).trans (xo_0))) rfl 0 (by decide) (hts _ qf_X5_10) (fun _ h9 => h9) (rfl) dX5_cheapest_46 ?_
  refine lv_iload_n hx hb dX5_cheapest_49 rfl (lv_at hl 1 rfl) ?_
  refine lv_iload_n hx hb dX5_cheapest_50 rfl (lv_at hl 2 rfl) ?_
  refine lv_iload_n hx hb dX5_cheapest_51 rfl (lv_at hl 3 rfl) ?_
  refine z_callV1 (rest := []) S (c_X0_cheapestGiver (n := n) (show n ≤ 8 by omega) (hz) j k (show j < 8 by omega) (show k < 5 by omega) mn) qm_X5_230 v_X0_cheapestGiver ⟨Nat.le_of_ble_eq_true rfl, Nat.le_of_ble_eq_true rfl⟩ rfl rfl hN hK hP hD hS hA (0) (bk_0) rfl rfl hl.1 rfl (Nat.le_of_ble_eq_true rfl) dX5_cheapest_52 ⟨Nat.le_of_ble_eq_true rfl, Nat.le_of_ble_eq_true rfl⟩ (fun H locs hP hD hS => ?_)
  exact z_iret hx hb hr hlocks hP hD hK hS (rfl) (by first | rfl | (simp only [minP, maxP, hm_, hs_, hh_, c1, c2, c3, not_true_eq_false, not_false_eq_true, and_self, and_true, true_and, and_false, false_and, or_true, true_or, or_false, false_or, if_true, if_false, ite_true, ite_false]; done) | (simp [minP, maxP, hm_, hs_, hh_, c1, c2, c3]; done) | (simp_all [minP, maxP]; done)) dX5_cheapest_55
end XM
