/-! The helpers of the law. -/
theorem kv_kJoin {n : Nat} : kJoin n = 0 ∨ kJoin n = 1 := by
  unfold kJoin
  (repeat' split) <;> first | exact Or.inl rfl | exact Or.inr (rfl)
theorem kv_kLeave {z : Nat → Int32} {n : Nat} {mb : Int32} : kLeave z n mb = 0 ∨ kLeave z n mb = 1 ∨ kLeave z n mb = 2 := by
  unfold kLeave
  (repeat' split) <;> first | exact Or.inl rfl | exact Or.inr (Or.inl rfl) | exact Or.inr (Or.inr (rfl))
theorem kv_kGive {z : Nat → Int32} {n : Nat} {ga ta sk mn : Int32} : kGive z n ga ta sk mn = 0 ∨ kGive z n ga ta sk mn = 1 ∨ kGive z n ga ta sk mn = 2 ∨ kGive z n ga ta sk mn = 3 := by
  unfold kGive
  (repeat' split) <;> first | exact Or.inl rfl | exact Or.inr (Or.inl rfl) | exact Or.inr (Or.inr (Or.inl rfl)) | exact Or.inr (Or.inr (Or.inr (rfl)))
theorem kv_kDonate {z : Nat → Int32} {n : Nat} {mb mn : Int32} : kDonate z n mb mn = 0 ∨ kDonate z n mb mn = 1 ∨ kDonate z n mb mn = 2 ∨ kDonate z n mb mn = 3 := by
  unfold kDonate
  (repeat' split) <;> first | exact Or.inl rfl | exact Or.inr (Or.inl rfl) | exact Or.inr (Or.inr (Or.inl rfl)) | exact Or.inr (Or.inr (Or.inr (rfl)))
theorem kv_kPass {z : Nat → Int32} {wk : Int32} : kPass z wk = 0 ∨ kPass z wk = 1 ∨ kPass z wk = 2 := by
  unfold kPass
  (repeat' split) <;> first | exact Or.inl rfl | exact Or.inr (Or.inl rfl) | exact Or.inr (Or.inr (rfl))
theorem kv_kSet {st v : Int32} : kSet st v = 0 ∨ kSet st v = 1 ∨ kSet st v = 2 := by
  unfold kSet
  (repeat' split) <;> first | exact Or.inl rfl | exact Or.inr (Or.inl rfl) | exact Or.inr (Or.inr (rfl))
theorem kv_kMove {z : Nat → Int32} {n : Nat} {mb mn : Int32} : kMove z n mb mn = 0 ∨ kMove z n mb mn = 1 ∨ kMove z n mb mn = 2 ∨ kMove z n mb mn = 3 := by
  unfold kMove
  (repeat' split) <;> first | exact Or.inl rfl | exact Or.inr (Or.inl rfl) | exact Or.inr (Or.inr (Or.inl rfl)) | exact Or.inr (Or.inr (Or.inr (rfl)))
theorem kv_kVote {z : Nat → Int32} {n : Nat} {mb : Int32} : kVote z n mb = 0 ∨ kVote z n mb = 1 ∨ kVote z n mb = 2 := by
  unfold kVote
  (repeat' split) <;> first | exact Or.inl rfl | exact Or.inr (Or.inl rfl) | exact Or.inr (Or.inr (rfl))
theorem kv_kTake {z : Nat → Int32} : kTake z = 0 ∨ kTake z = 1 := by
  unfold kTake
  (repeat' split) <;> first | exact Or.inl rfl | exact Or.inr (rfl)
theorem kv_kAppend {nb : Nat} {cd : Int32} : kAppend nb cd = 0 ∨ kAppend nb cd = 1 ∨ kAppend nb cd = 2 := by
  unfold kAppend
  (repeat' split) <;> first | exact Or.inl rfl | exact Or.inr (Or.inl rfl) | exact Or.inr (Or.inr (rfl))
theorem kv_kRun {sg r : Nat → Int32} {nb : Nat} : kRun sg r nb = 0 ∨ kRun sg r nb = 1 := by
  unfold kRun
  (repeat' split) <;> first | exact Or.inl rfl | exact Or.inr (rfl)
theorem kv_kUndo {kp : Nat} : kUndo kp = 0 ∨ kUndo kp = 1 := by
  unfold kUndo
  (repeat' split) <;> first | exact Or.inl rfl | exact Or.inr (rfl)
theorem kv_kMember {n : Nat} {mb x : Int32} : kMember n mb x = 0 ∨ kMember n mb x = 1 ∨ kMember n mb x = 2 := by
  unfold kMember
  (repeat' split) <;> first | exact Or.inl rfl | exact Or.inr (Or.inl rfl) | exact Or.inr (Or.inr (rfl))
theorem kv_kSkill {n : Nat} {mb sk x : Int32} : kSkill n mb sk x = 0 ∨ kSkill n mb sk x = 1 ∨ kSkill n mb sk x = 2 := by
  unfold kSkill
  (repeat' split) <;> first | exact Or.inl rfl | exact Or.inr (Or.inl rfl) | exact Or.inr (Or.inr (rfl))
theorem kv_kCount {x : Int32} : kCount x = 0 ∨ kCount x = 1 := by
  unfold kCount
  (repeat' split) <;> first | exact Or.inl rfl | exact Or.inr (rfl)
theorem kv_kSetting {x : Int32} : kSetting x = 0 ∨ kSetting x = 1 := by
  unfold kSetting
  (repeat' split) <;> first | exact Or.inl rfl | exact Or.inr (rfl)
theorem kv_kWorth {n : Nat} {mb sk mn : Int32} : kWorth n mb sk mn = 0 ∨ kWorth n mb sk mn = 1 ∨ kWorth n mb sk mn = 2 := by
  unfold kWorth
  (repeat' split) <;> first | exact Or.inl rfl | exact Or.inr (Or.inl rfl) | exact Or.inr (Or.inr (rfl))
theorem kv_kLongest {n : Nat} {ga ta sk : Int32} : kLongest n ga ta sk = 0 ∨ kLongest n ga ta sk = 1 := by
  unfold kLongest
  (repeat' split) <;> first | exact Or.inl rfl | exact Or.inr (rfl)
theorem kv_kDecay {n : Nat} {mb wk : Int32} : kDecay n mb wk = 0 ∨ kDecay n mb wk = 1 ∨ kDecay n mb wk = 2 := by
  unfold kDecay
  (repeat' split) <;> first | exact Or.inl rfl | exact Or.inr (Or.inl rfl) | exact Or.inr (Or.inr (rfl))
theorem kv_kRipest {sk : Int32} : kRipest sk = 0 ∨ kRipest sk = 1 := by
  unfold kRipest
  (repeat' split) <;> first | exact Or.inl rfl | exact Or.inr (rfl)
section XB
variable {l : Launch} {D : va_G} {cI cC cM cB cJ : ClassId} {ad ad2 : Nat → Nat} {z z2 : Nat → Int32} {wr : va_W} {t h : Nat → Nat} {ah : Nat → Nat → Nat} {zh : Nat → Nat → Int32} {x : Nat} {sg : Nat → Int32} {r : Nat → Int32} {sz : Int32} {o : Nat} {fo : Nat → Int64}
set_option maxHeartbeats 4000000 in
set_option maxRecDepth 100000 in
theorem c_L_join (hfl : l.stackTraces = false) {n : Nat} (hn : n ≤ 8) (hz : z 5 = nI n) {nx kp : Nat} (hnx : nx < 6) (hkp : kp ≤ 6) (hB : hBool z) : zH l D (zT cI cC cM cB cJ) yL_join cL_join 3 [(0, 8, 11, 13)] ({ frames := 7, cells := 1, slots := 6, locals := 110 } : Room) [.ref x, .ref o] (bkW cI cM ad z (txW cC t sg sz r (xoW x ad h t (hsW cB h ah (nI nx) (nI kp) (hbW cI cM ah zh ((o, .inl (cJ, 1, .inr (.inl fo))) :: wr)))))) (if (kJoin n) = 0 then (bkW cI cM ad (admZ z n) (txW cC t sg sz r (xoW x ad h t (hsW cB h ah (nI ((nx + 1) % 6)) (nI (min (kp + 1) 6)) (hbW cI cM ah (zup zh nx z) ((o, .inl (cJ, 1, .inr (.inl (vp_updL fo 0 ((nI n)).toInt64)))) :: wr)))))) else (bkW cI cM ad z (txW cC t sg sz r (xoW x ad h t (hsW cB h ah (nI nx) (nI kp) (hbW cI cM ah zh ((o, .inl (cJ, 1, .inr (.inl fo))) :: wr))))))) (kJoin n) 1 6 := by
  refine z_enterH (by decide) (Nat.le_of_ble_eq_true rfl) ?_
  intro p e s m below meth c A S hr hlocks hT hC hJ hN hA hK hP hD hS ls hl
  obtain ⟨hx, hb, hml, hown, hts⟩ := id S
  have hl : lv_has ls 3 [(0, .ref x), (1, .ref o)] := hl
  refine lv_aload_n hx hb dL_join_0 rfl (lv_at hl 1 rfl) ?_
  refine lv_iconst (v := 0) hx hb dL_join_1 (by decide) ?_
  refine lv_aload_n hx hb dL_join_2 rfl (lv_at hl 0 rfl) ?_
  refine z_callX (n := 0) (As := []) (rest := [.int 0, .ref o]) S (c_X5_join (wr := (o, .inl (cJ, 1, .inr (.inl fo))) :: wr) hfl hn hz hnx hkp hB) qm_L_7 ⟨⟨qi_X5_join, qs_X5_join, qn_X5, qc_X5_join⟩, rfl, by decide, by decide, by decide +kernel⟩ ⟨Nat.le_of_ble_eq_true rfl, Nat.le_of_ble_eq_true rfl⟩ rfl rfl hJ hN hK hP hD hS hA 22 rfl rfl rfl hl.1 rfl (Nat.le_of_ble_eq_true rfl) dL_join_3 ⟨Nat.le_of_ble_eq_true rfl, Nat.le_of_ble_eq_true rfl⟩ (fun hk H locs hP hD hS => ?_) (fun hk E hE ce q9 H locs hP hD hS h9 hv9 hcl => ?_)
  · refine lv_i2l (v := ((nI n)).toInt64) hx hb dL_join_6 rfl ?_
    refine va_last hx hb hK hP hD hS 139 4 (n := 1) (f := fo) rfl rfl (by unfold vp_in; decide) dL_join_7 (fun H locs hP hD hS => ?_)
    have hP : va_P D vwCl (bkW cI cM ad (admZ z n) (txW cC t sg sz r (xoW x ad h t (hsW cB h ah (nI ((nx + 1) % 6)) (nI (min (kp + 1) 6)) (hbW cI cM ah (zup zh nx z) ((o, .inl (cJ, 1, .inr (.inl (vp_updL fo 0 ((nI n)).toInt64)))) :: wr)))))) H := hP
    have hD : va_D A (bkW cI cM ad (admZ z n) (txW cC t sg sz r (xoW x ad h t (hsW cB h ah (nI ((nx + 1) % 6)) (nI (min (kp + 1) 6)) (hbW cI cM ah (zup zh nx z) ((o, .inl (cJ, 1, .inr (.inl (vp_updL fo 0 ((nI n)).toInt64)))) :: wr)))))) := hD
    refine lv_goto (tgt := 14) hx hb dL_join_8 (by decide) ?_
    refine lv_iconst (v := 0) hx hb dL_join_14 (by decide) ?_
    exact z_iret hx hb hr hlocks hP hD hK hS (if_pos hk).symm (by rw [hk]) dL_join_15
  · rcases kv_kJoin with q | q
    · exact absurd q hk
    · obtain rfl : "java/lang/IllegalStateException" = E := Option.some.inj (by rw [q] at hE; exact hE)
      refine vx_catch (name := "java/lang/IllegalStateException") hown [] ⟨0, 8, 11, 13⟩ [] (by rw [hT]; rfl) (fun z hz => absurd hz List.not_mem_nil) (by decide) (by decide) (hts _ qk_L_13) (va_Nw.use rfl (hJ.2.2.1 _ (by decide +kernel))) h9 hv9 hcl ?_
      refine lv_astore_n (lv' := [(2, .ref q9), (0, .ref x), (1, .ref o)]) hx hb dL_join_11 rfl hl (by decide) rfl (fun ls hl => ?_)
      refine lv_iconst (v := 1) hx hb dL_join_12 (by decide) ?_
      exact z_iret hx hb hr hlocks hP hD hK hS (if_neg hk).symm (by rw [q]) dL_join_13
set_option maxHeartbeats 4000000 in
set_option maxRecDepth 100000 in
theorem c_L_leave_a (hfl : l.stackTraces = false) {n : Nat} (hn : n ≤ 8) (hz : z 5 = nI n) {nx kp : Nat} (hnx : nx < 6) (hkp : kp ≤ 6) (hB : hBool z) (hz2 : z 10 = -1) (mb : Int32) : zH l D (zT cI cC cM cB cJ) yL_leave cL_leave 4 [(0, 9, 12, 19), (0, 9, 15, 13)] ({ frames := 7, cells := 1, slots := 6, locals := 111 } : Room) [.ref x, .int mb, .ref o] (bkW cI cM ad z (txW cC t sg sz r (xoW x ad h t (hsW cB h ah (nI nx) (nI kp) (hbW cI cM ah zh ((o, .inl (cJ, 1, .inr (.inl fo))) :: wr)))))) (if (kLeave z n mb) = 0 then (bkW cI cM ad (outZ z (cl mb)) (txW cC t sg sz r (xoW x ad h t (hsW cB h ah (nI ((nx + 1) % 6)) (nI (min (kp + 1) 6)) (hbW cI cM ah (zup zh nx z) ((o, .inl (cJ, 1, .inr (.inl (vp_updL fo 0 ((z (14 + 16 * cl mb + 1))).toInt64)))) :: wr)))))) else (bkW cI cM ad z (txW cC t sg sz r (xoW x ad h t (hsW cB h ah (nI nx) (nI kp) (hbW cI cM ah zh ((o, .inl (cJ, 1, .inr (.inl fo))) :: wr))))))) (kLeave z n mb) 1 6 := by
  refine z_enterH (by decide) (Nat.le_of_ble_eq_true rfl) ?_
  intro p e s m below meth c A S hr hlocks hT hC hJ hN hA hK hP hD hS ls hl
  obtain ⟨hx, hb, hml, hown, hts⟩ := id S
  have hl : lv_has ls 4 [(0, .ref x), (1, .int mb), (2, .ref o)] := hl
  refine lv_aload_n hx hb dL_leave_0 rfl (lv_at hl 2 rfl) ?_
  refine lv_iconst (v := 0) hx hb dL_leave_1 (by decide) ?_
  refine lv_aload_n hx hb dL_leave_2 rfl (lv_at hl 0 rfl) ?_
  refine lv_iload_n hx hb dL_leave_3 rfl (lv_at hl 1 rfl) ?_
  refine z_callX (n := 1) (As := [.int mb]) (rest := [.int 0, .ref o]) S (c_X5_leave_a (wr := (o, .inl (cJ, 1, .inr (.inl fo))) :: wr) hfl hn hz hnx hkp hB hz2 mb) qm_L_15 ⟨⟨qi_X5_leave, qs_X5_leave, qn_X5, qc_X5_leave⟩, rfl, by decide, by decide, by decide +kernel⟩ ⟨Nat.le_of_ble_eq_true rfl, Nat.le_of_ble_eq_true rfl⟩ rfl rfl hJ hN hK hP hD hS hA 22 rfl rfl rfl hl.1 rfl (Nat.le_of_ble_eq_true rfl) dL_leave_4 ⟨Nat.le_of_ble_eq_true rfl, Nat.le_of_ble_eq_true rfl⟩ (fun hk H locs hP hD hS => ?_) (fun hk E hE ce q9 H locs hP hD hS h9 hv9 hcl => ?_)
  · refine lv_i2l (v := ((z (14 + 16 * cl mb + 1))).toInt64) hx hb dL_leave_7 rfl ?_
    refine va_last hx hb hK hP hD hS 139 4 (n := 1) (f := fo) rfl rfl (by unfold vp_in; decide) dL_leave_8 (fun H locs hP hD hS => ?_)
    have hP : va_P D vwCl (bkW cI cM ad (outZ z (cl mb)) (txW cC t sg sz r (xoW x ad h t (hsW cB h ah (nI ((nx + 1) % 6)) (nI (min (kp + 1) 6)) (hbW cI cM ah (zup zh nx z) ((o, .inl (cJ, 1, .inr (.inl (vp_updL fo 0 ((z (14 + 16 * cl mb + 1))).toInt64)))) :: wr)))))) H := hP
    have hD : va_D A (bkW cI cM ad (outZ z (cl mb)) (txW cC t sg sz r (xoW x ad h t (hsW cB h ah (nI ((nx + 1) % 6)) (nI (min (kp + 1) 6)) (hbW cI cM ah (zup zh nx z) ((o, .inl (cJ, 1, .inr (.inl (vp_updL fo 0 ((z (14 + 16 * cl mb + 1))).toInt64)))) :: wr)))))) := hD
    refine lv_goto (tgt := 18) hx hb dL_leave_9 (by decide) ?_
    refine lv_iconst (v := 0) hx hb dL_leave_18 (by decide) ?_
    exact z_iret hx hb hr hlocks hP hD hK hS (if_pos hk).symm (by rw [hk]) dL_leave_19
  · rcases kv_kLeave with q | q | q
    · exact absurd q hk
    · obtain rfl : "java/lang/IndexOutOfBoundsException" = E := Option.some.inj (by rw [q] at hE; exact hE)
      refine vx_catch (name := "java/lang/IndexOutOfBoundsException") hown [] ⟨0, 9, 12, 19⟩ [⟨0, 9, 15, 13⟩] (by rw [hT]; rfl) (fun z hz => absurd hz List.not_mem_nil) (by decide) (by decide) (hts _ qk_L_19) (va_Nw.use rfl (hJ.2.2.1 _ (by decide +kernel))) h9 hv9 hcl ?_
      refine lv_astore_n (lv' := [(3, .ref q9), (0, .ref x), (1, .int mb), (2, .ref o)]) hx hb dL_leave_12 rfl hl (by decide) rfl (fun ls hl => ?_)
      refine lv_iconst (v := 1) hx hb dL_leave_13 (by decide) ?_
      exact z_iret hx hb hr hlocks hP hD hK hS (if_neg hk).symm (by rw [q]) dL_leave_14
    · obtain rfl : "java/lang/IllegalStateException" = E := Option.some.inj (by rw [q] at hE; exact hE)
      refine vx_catch (name := "java/lang/IllegalStateException") hown [⟨0, 9, 12, 19⟩] ⟨0, 9, 15, 13⟩ [] (by rw [hT]; rfl) (fun z hz => by
        simp only [List.mem_cons, List.not_mem_nil, or_false] at hz
        rcases hz with rfl
        · exact Or.inr ⟨by decide, "java/lang/IndexOutOfBoundsException", hts _ qk_L_19, hC.2.1⟩) (by decide) (by decide) (hts _ qk_L_13) (va_Nw.use rfl (hJ.2.2.1 _ (by decide +kernel))) h9 hv9 hcl ?_
      refine lv_astore_n (lv' := [(3, .ref q9), (0, .ref x), (1, .int mb), (2, .ref o)]) hx hb dL_leave_15 rfl hl (by decide) rfl (fun ls hl => ?_)
      refine lv_iconst (v := 2) hx hb dL_leave_16 (by decide) ?_
      exact z_iret hx hb hr hlocks hP hD hK hS (if_neg hk).symm (by rw [q]) dL_leave_17
set_option maxHeartbeats 4000000 in
set_option maxRecDepth 100000 in
theorem c_L_leave_b (hfl : l.stackTraces = false) {n : Nat} (hn : n ≤ 8) (hz : z 5 = nI n) {nx kp : Nat} (hnx : nx < 6) (hkp : kp ≤ 6) (hB : hBool z) {d : Nat} (hd : d < n) (hz2 : z 10 = nI d) (mb : Int32) : zH l D (zT cI cC cM cB cJ) yL_leave cL_leave 4 [(0, 9, 12, 19), (0, 9, 15, 13)] ({ frames := 7, cells := 1, slots := 6, locals := 111 } : Room) [.ref x, .int mb, .ref o] (bkW cI cM ad z (txW cC t sg sz r (xoW x ad h t (hsW cB h ah (nI nx) (nI kp) (hbW cI cM ah zh ((o, .inl (cJ, 1, .inr (.inl fo))) :: wr)))))) (if (kLeave z n mb) = 0 then (bkW cI cM ad (disZ z n (cl mb) d) (txW cC t sg sz r (xoW x ad h t (hsW cB h ah (nI ((nx + 1) % 6)) (nI (min (kp + 1) 6)) (hbW cI cM ah (zup zh nx z) ((o, .inl (cJ, 1, .inr (.inl (vp_updL fo 0 ((z (14 + 16 * cl mb + 1))).toInt64)))) :: wr)))))) else (bkW cI cM ad z (txW cC t sg sz r (xoW x ad h t (hsW cB h ah (nI nx) (nI kp) (hbW cI cM ah zh ((o, .inl (cJ, 1, .inr (.inl fo))) :: wr))))))) (kLeave z n mb) 1 6 := by
  refine z_enterH (by decide) (Nat.le_of_ble_eq_true rfl) ?_
  intro p e s m below meth c A S hr hlocks hT hC hJ hN hA hK hP hD hS ls hl
  obtain ⟨hx, hb, hml, hown, hts⟩ := id S
  have hl : lv_has ls 4 [(0, .ref x), (1, .int mb), (2, .ref o)] := hl
  refine lv_aload_n hx hb dL_leave_0 rfl (lv_at hl 2 rfl) ?_
  refine lv_iconst (v := 0) hx hb dL_leave_1 (by decide) ?_
  refine lv_aload_n hx hb dL_leave_2 rfl (lv_at hl 0 rfl) ?_
  refine lv_iload_n hx hb dL_leave_3 rfl (lv_at hl 1 rfl) ?_
  refine z_callX (n := 1) (As := [.int mb]) (rest := [.int 0, .ref o]) S (c_X5_leave_b (wr := (o, .inl (cJ, 1, .inr (.inl fo))) :: wr) hfl hn hz hnx hkp hB hd hz2 mb) qm_L_15 ⟨⟨qi_X5_leave, qs_X5_leave, qn_X5, qc_X5_leave⟩, rfl, by decide, by decide, by decide +kernel⟩ ⟨Nat.le_of_ble_eq_true rfl, Nat.le_of_ble_eq_true rfl⟩ rfl rfl hJ hN hK hP hD hS hA 22 rfl rfl rfl hl.1 rfl (Nat.le_of_ble_eq_true rfl) dL_leave_4 ⟨Nat.le_of_ble_eq_true rfl, Nat.le_of_ble_eq_true rfl⟩ (fun hk H locs hP hD hS => ?_) (fun hk E hE ce q9 H locs hP hD hS h9 hv9 hcl => ?_)
  · refine lv_i2l (v := ((z (14 + 16 * cl mb + 1))).toInt64) hx hb dL_leave_7 rfl ?_
    refine va_last hx hb hK hP hD hS 139 4 (n := 1) (f := fo) rfl rfl (by unfold vp_in; decide) dL_leave_8 (fun H locs hP hD hS => ?_)
    have hP : va_P D vwCl (bkW cI cM ad (disZ z n (cl mb) d) (txW cC t sg sz r (xoW x ad h t (hsW cB h ah (nI ((nx + 1) % 6)) (nI (min (kp + 1) 6)) (hbW cI cM ah (zup zh nx z) ((o, .inl (cJ, 1, .inr (.inl (vp_updL fo 0 ((z (14 + 16 * cl mb + 1))).toInt64)))) :: wr)))))) H := hP
    have hD : va_D A (bkW cI cM ad (disZ z n (cl mb) d) (txW cC t sg sz r (xoW x ad h t (hsW cB h ah (nI ((nx + 1) % 6)) (nI (min (kp + 1) 6)) (hbW cI cM ah (zup zh nx z) ((o, .inl (cJ, 1, .inr (.inl (vp_updL fo 0 ((z (14 + 16 * cl mb + 1))).toInt64)))) :: wr)))))) := hD
    refine lv_goto (tgt := 18) hx hb dL_leave_9 (by decide) ?_
    refine lv_iconst (v := 0) hx hb dL_leave_18 (by decide) ?_
    exact z_iret hx hb hr hlocks hP hD hK hS (if_pos hk).symm (by rw [hk]) dL_leave_19
  · rcases kv_kLeave with q | q | q
    · exact absurd q hk
    · obtain rfl : "java/lang/IndexOutOfBoundsException" = E := Option.some.inj (by rw [q] at hE; exact hE)
      refine vx_catch (name := "java/lang/IndexOutOfBoundsException") hown [] ⟨0, 9, 12, 19⟩ [⟨0, 9, 15, 13⟩] (by rw [hT]; rfl) (fun z hz => absurd hz List.not_mem_nil) (by decide) (by decide) (hts _ qk_L_19) (va_Nw.use rfl (hJ.2.2.1 _ (by decide +kernel))) h9 hv9 hcl ?_
      refine lv_astore_n (lv' := [(3, .ref q9), (0, .ref x), (1, .int mb), (2, .ref o)]) hx hb dL_leave_12 rfl hl (by decide) rfl (fun ls hl => ?_)
      refine lv_iconst (v := 1) hx hb dL_leave_13 (by decide) ?_
      exact z_iret hx hb hr hlocks hP hD hK hS (if_neg hk).symm (by rw [q]) dL_leave_14
    · obtain rfl : "java/lang/IllegalStateException" = E := Option.some.inj (by rw [q] at hE; exact hE)
      refine vx_catch (name := "java/lang/IllegalStateException") hown [⟨0, 9, 12, 19⟩] ⟨0, 9, 15, 13⟩ [] (by rw [hT]; rfl) (fun z hz => by
        simp only [List.mem_cons, List.not_mem_nil, or_false] at hz
        rcases hz with rfl
        · exact Or.inr ⟨by decide, "java/lang/IndexOutOfBoundsException", hts _ qk_L_19, hC.2.1⟩) (by decide) (by decide) (hts _ qk_L_13) (va_Nw.use rfl (hJ.2.2.1 _ (by decide +kernel))) h9 hv9 hcl ?_
      refine lv_astore_n (lv' := [(3, .ref q9), (0, .ref x), (1, .int mb), (2, .ref o)]) hx hb dL_leave_15 rfl hl (by decide) rfl (fun ls hl => ?_)
      refine lv_iconst (v := 2) hx hb dL_leave_16 (by decide) ?_
      exact z_iret hx hb hr hlocks hP hD hK hS (if_neg hk).symm (by rw [q]) dL_leave_17
set_option maxHeartbeats 4000000 in
set_option maxRecDepth 100000 in
theorem c_L_give (hfl : l.stackTraces = false) {n : Nat} (hn : n ≤ 8) (hz : z 5 = nI n) {nx kp : Nat} (hnx : nx < 6) (hkp : kp ≤ 6) (hB : hBool z) (ga ta sk mn : Int32) : zH l D (zT cI cC cM cB cJ) yL_give cL_give 7 [(0, 14, 17, 19), (0, 14, 21, 25), (0, 14, 25, 13)] ({ frames := 7, cells := 1, slots := 6, locals := 136 } : Room) [.ref x, .int ga, .int ta, .int sk, .int mn, .ref o] (bkW cI cM ad z (txW cC t sg sz r (xoW x ad h t (hsW cB h ah (nI nx) (nI kp) (hbW cI cM ah zh ((o, .inl (cJ, 1, .inr (.inl fo))) :: wr)))))) (if (kGive z n ga ta sk mn) = 0 then (bkW cI cM ad (dealZ z (cl ga) (cl ta) (cl sk) mn) (txW cC t sg sz r (xoW x ad h t (hsW cB h ah (nI ((nx + 1) % 6)) (nI (min (kp + 1) 6)) (hbW cI cM ah (zup zh nx z) ((o, .inl (cJ, 1, .inr (.inl (vp_updL fo 0 ((valP (z (25 + 16 * cl ga + cl sk)) mn)).toInt64)))) :: wr)))))) else (bkW cI cM ad z (txW cC t sg sz r (xoW x ad h t (hsW cB h ah (nI nx) (nI kp) (hbW cI cM ah zh ((o, .inl (cJ, 1, .inr (.inl fo))) :: wr))))))) (kGive z n ga ta sk mn) 1 6 := by
  refine z_enterH (by decide) (Nat.le_of_ble_eq_true rfl) ?_
  intro p e s m below meth c A S hr hlocks hT hC hJ hN hA hK hP hD hS ls hl
  obtain ⟨hx, hb, hml, hown, hts⟩ := id S
  have hl : lv_has ls 7 [(0, .ref x), (1, .int ga), (2, .int ta), (3, .int sk), (4, .int mn), (5, .ref o)] := hl
  refine lv_aload hx hb dL_give_0 (lv_at hl 5 rfl) ?_
  refine lv_iconst (v := 0) hx hb dL_give_2 (by decide) ?_
  refine lv_aload_n hx hb dL_give_3 rfl (lv_at hl 0 rfl) ?_
  refine lv_iload_n hx hb dL_give_4 rfl (lv_at hl 1 rfl) ?_
  refine lv_iload_n hx hb dL_give_5 rfl (lv_at hl 2 rfl) ?_
  refine lv_iload_n hx hb dL_give_6 rfl (lv_at hl 3 rfl) ?_
  refine lv_iload hx hb dL_give_7 (lv_at hl 4 rfl) ?_
  refine z_callX (n := 4) (As := [.int ga, .int ta, .int sk, .int mn]) (rest := [.int 0, .ref o]) S (c_X5_give (wr := (o, .inl (cJ, 1, .inr (.inl fo))) :: wr) hfl hn hz hnx hkp hB ga ta sk mn) qm_L_21 ⟨⟨qi_X5_give, qs_X5_give, qn_X5, qc_X5_give⟩, rfl, by decide, by decide, by decide +kernel⟩ ⟨Nat.le_of_ble_eq_true rfl, Nat.le_of_ble_eq_true rfl⟩ rfl rfl hJ hN hK hP hD hS hA 22 rfl rfl rfl hl.1 rfl (Nat.le_of_ble_eq_true rfl) dL_give_9 ⟨Nat.le_of_ble_eq_true rfl, Nat.le_of_ble_eq_true rfl⟩ (fun hk H locs hP hD hS => ?_) (fun hk E hE ce q9 H locs hP hD hS h9 hv9 hcl => ?_)
  · refine lv_i2l (v := ((valP (z (25 + 16 * cl ga + cl sk)) mn)).toInt64) hx hb dL_give_12 rfl ?_
    refine va_last hx hb hK hP hD hS 139 4 (n := 1) (f := fo) rfl rfl (by unfold vp_in; decide) dL_give_13 (fun H locs hP hD hS => ?_)
    have hP : va_P D vwCl (bkW cI cM ad (dealZ z (cl ga) (cl ta) (cl sk) mn) (txW cC t sg sz r (xoW x ad h t (hsW cB h ah (nI ((nx + 1) % 6)) (nI (min (kp + 1) 6)) (hbW cI cM ah (zup zh nx z) ((o, .inl (cJ, 1, .inr (.inl (vp_updL fo 0 ((valP (z (25 + 16 * cl ga + cl sk)) mn)).toInt64)))) :: wr)))))) H := hP
    have hD : va_D A (bkW cI cM ad (dealZ z (cl ga) (cl ta) (cl sk) mn) (txW cC t sg sz r (xoW x ad h t (hsW cB h ah (nI ((nx + 1) % 6)) (nI (min (kp + 1) 6)) (hbW cI cM ah (zup zh nx z) ((o, .inl (cJ, 1, .inr (.inl (vp_updL fo 0 ((valP (z (25 + 16 * cl ga + cl sk)) mn)).toInt64)))) :: wr)))))) := hD
    refine lv_goto (tgt := 29) hx hb dL_give_14 (by decide) ?_
    refine lv_iconst (v := 0) hx hb dL_give_29 (by decide) ?_
    exact z_iret hx hb hr hlocks hP hD hK hS (if_pos hk).symm (by rw [hk]) dL_give_30
  · rcases kv_kGive with q | q | q | q
    · exact absurd q hk
    · obtain rfl : "java/lang/IndexOutOfBoundsException" = E := Option.some.inj (by rw [q] at hE; exact hE)
      refine vx_catch (name := "java/lang/IndexOutOfBoundsException") hown [] ⟨0, 14, 17, 19⟩ [⟨0, 14, 21, 25⟩, ⟨0, 14, 25, 13⟩] (by rw [hT]; rfl) (fun z hz => absurd hz List.not_mem_nil) (by decide) (by decide) (hts _ qk_L_19) (va_Nw.use rfl (hJ.2.2.1 _ (by decide +kernel))) h9 hv9 hcl ?_
      refine lv_astore (lv' := [(6, .ref q9), (0, .ref x), (1, .int ga), (2, .int ta), (3, .int sk), (4, .int mn), (5, .ref o)]) hx hb dL_give_17 hl (by decide) rfl (fun ls hl => ?_)
      refine lv_iconst (v := 1) hx hb dL_give_19 (by decide) ?_
      exact z_iret hx hb hr hlocks hP hD hK hS (if_neg hk).symm (by rw [q]) dL_give_20
    · obtain rfl : "java/lang/IllegalArgumentException" = E := Option.some.inj (by rw [q] at hE; exact hE)
      refine vx_catch (name := "java/lang/IllegalArgumentException") hown [⟨0, 14, 17, 19⟩] ⟨0, 14, 21, 25⟩ [⟨0, 14, 25, 13⟩] (by rw [hT]; rfl) (fun z hz => by
        simp only [List.mem_cons, List.not_mem_nil, or_false] at hz
        rcases hz with rfl
        · exact Or.inr ⟨by decide, "java/lang/IndexOutOfBoundsException", hts _ qk_L_19, hC.1⟩) (by decide) (by decide) (hts _ qk_L_25) (va_Nw.use rfl (hJ.2.2.1 _ (by decide +kernel))) h9 hv9 hcl ?_
      refine lv_astore (lv' := [(6, .ref q9), (0, .ref x), (1, .int ga), (2, .int ta), (3, .int sk), (4, .int mn), (5, .ref o)]) hx hb dL_give_21 hl (by decide) rfl (fun ls hl => ?_)
      refine lv_iconst (v := 2) hx hb dL_give_23 (by decide) ?_
      exact z_iret hx hb hr hlocks hP hD hK hS (if_neg hk).symm (by rw [q]) dL_give_24
    · obtain rfl : "java/lang/IllegalStateException" = E := Option.some.inj (by rw [q] at hE; exact hE)
      refine vx_catch (name := "java/lang/IllegalStateException") hown [⟨0, 14, 17, 19⟩, ⟨0, 14, 21, 25⟩] ⟨0, 14, 25, 13⟩ [] (by rw [hT]; rfl) (fun z hz => by
        simp only [List.mem_cons, List.not_mem_nil, or_false] at hz
        rcases hz with rfl | rfl
        · exact Or.inr ⟨by decide, "java/lang/IndexOutOfBoundsException", hts _ qk_L_19, hC.2.1⟩
        · exact Or.inr ⟨by decide, "java/lang/IllegalArgumentException", hts _ qk_L_25, hC.2.2⟩) (by decide) (by decide) (hts _ qk_L_13) (va_Nw.use rfl (hJ.2.2.1 _ (by decide +kernel))) h9 hv9 hcl ?_
      refine lv_astore (lv' := [(6, .ref q9), (0, .ref x), (1, .int ga), (2, .int ta), (3, .int sk), (4, .int mn), (5, .ref o)]) hx hb dL_give_25 hl (by decide) rfl (fun ls hl => ?_)
      refine lv_iconst (v := 3) hx hb dL_give_27 (by decide) ?_
      exact z_iret hx hb hr hlocks hP hD hK hS (if_neg hk).symm (by rw [q]) dL_give_28
set_option maxHeartbeats 4000000 in
set_option maxRecDepth 100000 in
theorem c_L_donate (hfl : l.stackTraces = false) {n : Nat} (hn : n ≤ 8) (hz : z 5 = nI n) {nx kp : Nat} (hnx : nx < 6) (hkp : kp ≤ 6) (hB : hBool z) (mb mn : Int32) : zH l D (zT cI cC cM cB cJ) yL_donate cL_donate 5 [(0, 10, 13, 19), (0, 10, 17, 25), (0, 10, 21, 13)] ({ frames := 7, cells := 1, slots := 6, locals := 112 } : Room) [.ref x, .int mb, .int mn, .ref o] (bkW cI cM ad z (txW cC t sg sz r (xoW x ad h t (hsW cB h ah (nI nx) (nI kp) (hbW cI cM ah zh ((o, .inl (cJ, 1, .inr (.inl fo))) :: wr)))))) (if (kDonate z n mb mn) = 0 then (bkW cI cM ad (payZ z (cl mb) mn) (txW cC t sg sz r (xoW x ad h t (hsW cB h ah (nI ((nx + 1) % 6)) (nI (min (kp + 1) 6)) (hbW cI cM ah (zup zh nx z) ((o, .inl (cJ, 1, .inr (.inl (vp_updL fo 0 ((z (14 + 16 * cl mb + 1) - mn)).toInt64)))) :: wr)))))) else (bkW cI cM ad z (txW cC t sg sz r (xoW x ad h t (hsW cB h ah (nI nx) (nI kp) (hbW cI cM ah zh ((o, .inl (cJ, 1, .inr (.inl fo))) :: wr))))))) (kDonate z n mb mn) 1 6 := by
  refine z_enterH (by decide) (Nat.le_of_ble_eq_true rfl) ?_
  intro p e s m below meth c A S hr hlocks hT hC hJ hN hA hK hP hD hS ls hl
  obtain ⟨hx, hb, hml, hown, hts⟩ := id S
  have hl : lv_has ls 5 [(0, .ref x), (1, .int mb), (2, .int mn), (3, .ref o)] := hl
  refine lv_aload_n hx hb dL_donate_0 rfl (lv_at hl 3 rfl) ?_
  refine lv_iconst (v := 0) hx hb dL_donate_1 (by decide) ?_
  refine lv_aload_n hx hb dL_donate_2 rfl (lv_at hl 0 rfl) ?_
  refine lv_iload_n hx hb dL_donate_3 rfl (lv_at hl 1 rfl) ?_
  refine lv_iload_n hx hb dL_donate_4 rfl (lv_at hl 2 rfl) ?_
  refine z_callX (n := 2) (As := [.int mb, .int mn]) (rest := [.int 0, .ref o]) S (c_X5_donate (wr := (o, .inl (cJ, 1, .inr (.inl fo))) :: wr) hfl hn hz hnx hkp hB mb mn) qm_L_27 ⟨⟨qi_X5_donate, qs_X5_donate, qn_X5, qc_X5_donate⟩, rfl, by decide, by decide, by decide +kernel⟩ ⟨Nat.le_of_ble_eq_true rfl, Nat.le_of_ble_eq_true rfl⟩ rfl rfl hJ hN hK hP hD hS hA 22 rfl rfl rfl hl.1 rfl (Nat.le_of_ble_eq_true rfl) dL_donate_5 ⟨Nat.le_of_ble_eq_true rfl, Nat.le_of_ble_eq_true rfl⟩ (fun hk H locs hP hD hS => ?_) (fun hk E hE ce q9 H locs hP hD hS h9 hv9 hcl => ?_)
  · refine lv_i2l (v := ((z (14 + 16 * cl mb + 1) - mn)).toInt64) hx hb dL_donate_8 rfl ?_
    refine va_last hx hb hK hP hD hS 139 4 (n := 1) (f := fo) rfl rfl (by unfold vp_in; decide) dL_donate_9 (fun H locs hP hD hS => ?_)
    have hP : va_P D vwCl (bkW cI cM ad (payZ z (cl mb) mn) (txW cC t sg sz r (xoW x ad h t (hsW cB h ah (nI ((nx + 1) % 6)) (nI (min (kp + 1) 6)) (hbW cI cM ah (zup zh nx z) ((o, .inl (cJ, 1, .inr (.inl (vp_updL fo 0 ((z (14 + 16 * cl mb + 1) - mn)).toInt64)))) :: wr)))))) H := hP
    have hD : va_D A (bkW cI cM ad (payZ z (cl mb) mn) (txW cC t sg sz r (xoW x ad h t (hsW cB h ah (nI ((nx + 1) % 6)) (nI (min (kp + 1) 6)) (hbW cI cM ah (zup zh nx z) ((o, .inl (cJ, 1, .inr (.inl (vp_updL fo 0 ((z (14 + 16 * cl mb + 1) - mn)).toInt64)))) :: wr)))))) := hD
    refine lv_goto (tgt := 25) hx hb dL_donate_10 (by decide) ?_
    refine lv_iconst (v := 0) hx hb dL_donate_25 (by decide) ?_
    exact z_iret hx hb hr hlocks hP hD hK hS (if_pos hk).symm (by rw [hk]) dL_donate_26
  · rcases kv_kDonate with q | q | q | q
    · exact absurd q hk
    · obtain rfl : "java/lang/IndexOutOfBoundsException" = E := Option.some.inj (by rw [q] at hE; exact hE)
      refine vx_catch (name := "java/lang/IndexOutOfBoundsException") hown [] ⟨0, 10, 13, 19⟩ [⟨0, 10, 17, 25⟩, ⟨0, 10, 21, 13⟩] (by rw [hT]; rfl) (fun z hz => absurd hz List.not_mem_nil) (by decide) (by decide) (hts _ qk_L_19) (va_Nw.use rfl (hJ.2.2.1 _ (by decide +kernel))) h9 hv9 hcl ?_
      refine lv_astore (lv' := [(4, .ref q9), (0, .ref x), (1, .int mb), (2, .int mn), (3, .ref o)]) hx hb dL_donate_13 hl (by decide) rfl (fun ls hl => ?_)
      refine lv_iconst (v := 1) hx hb dL_donate_15 (by decide) ?_
      exact z_iret hx hb hr hlocks hP hD hK hS (if_neg hk).symm (by rw [q]) dL_donate_16
    · obtain rfl : "java/lang/IllegalArgumentException" = E := Option.some.inj (by rw [q] at hE; exact hE)
      refine vx_catch (name := "java/lang/IllegalArgumentException") hown [⟨0, 10, 13, 19⟩] ⟨0, 10, 17, 25⟩ [⟨0, 10, 21, 13⟩] (by rw [hT]; rfl) (fun z hz => by
        simp only [List.mem_cons, List.not_mem_nil, or_false] at hz
        rcases hz with rfl
        · exact Or.inr ⟨by decide, "java/lang/IndexOutOfBoundsException", hts _ qk_L_19, hC.1⟩) (by decide) (by decide) (hts _ qk_L_25) (va_Nw.use rfl (hJ.2.2.1 _ (by decide +kernel))) h9 hv9 hcl ?_
      refine lv_astore (lv' := [(4, .ref q9), (0, .ref x), (1, .int mb), (2, .int mn), (3, .ref o)]) hx hb dL_donate_17 hl (by decide) rfl (fun ls hl => ?_)
      refine lv_iconst (v := 2) hx hb dL_donate_19 (by decide) ?_
      exact z_iret hx hb hr hlocks hP hD hK hS (if_neg hk).symm (by rw [q]) dL_donate_20
    · obtain rfl : "java/lang/IllegalStateException" = E := Option.some.inj (by rw [q] at hE; exact hE)
      refine vx_catch (name := "java/lang/IllegalStateException") hown [⟨0, 10, 13, 19⟩, ⟨0, 10, 17, 25⟩] ⟨0, 10, 21, 13⟩ [] (by rw [hT]; rfl) (fun z hz => by
        simp only [List.mem_cons, List.not_mem_nil, or_false] at hz
        rcases hz with rfl | rfl
        · exact Or.inr ⟨by decide, "java/lang/IndexOutOfBoundsException", hts _ qk_L_19, hC.2.1⟩
        · exact Or.inr ⟨by decide, "java/lang/IllegalArgumentException", hts _ qk_L_25, hC.2.2⟩) (by decide) (by decide) (hts _ qk_L_13) (va_Nw.use rfl (hJ.2.2.1 _ (by decide +kernel))) h9 hv9 hcl ?_
      refine lv_astore (lv' := [(4, .ref q9), (0, .ref x), (1, .int mb), (2, .int mn), (3, .ref o)]) hx hb dL_donate_21 hl (by decide) rfl (fun ls hl => ?_)
      refine lv_iconst (v := 3) hx hb dL_donate_23 (by decide) ?_
      exact z_iret hx hb hr hlocks hP hD hK hS (if_neg hk).symm (by rw [q]) dL_donate_24
set_option maxHeartbeats 4000000 in
set_option maxRecDepth 100000 in
theorem c_L_pass (hfl : l.stackTraces = false) {n : Nat} (hn : n ≤ 8) (hz : z 5 = nI n) {nx kp : Nat} (hnx : nx < 6) (hkp : kp ≤ 6) (hB : hBool z) (wk : Int32) : zH l D (zT cI cC cM cB cJ) yL_pass cL_pass 4 [(0, 9, 12, 25), (0, 9, 15, 13)] ({ frames := 7, cells := 1, slots := 6, locals := 113 } : Room) [.ref x, .int wk, .ref o] (bkW cI cM ad z (txW cC t sg sz r (xoW x ad h t (hsW cB h ah (nI nx) (nI kp) (hbW cI cM ah zh ((o, .inl (cJ, 1, .inr (.inl fo))) :: wr)))))) (if (kPass z wk) = 0 then (bkW cI cM ad (wkI z n (cl wk)) (txW cC t sg sz r (xoW x ad h t (hsW cB h ah (nI ((nx + 1) % 6)) (nI (min (kp + 1) 6)) (hbW cI cM ah (zup zh nx z) ((o, .inl (cJ, 1, .inr (.inl (vp_updL fo 0 ((wkS z n (cl wk))).toInt64)))) :: wr)))))) else (bkW cI cM ad z (txW cC t sg sz r (xoW x ad h t (hsW cB h ah (nI nx) (nI kp) (hbW cI cM ah zh ((o, .inl (cJ, 1, .inr (.inl fo))) :: wr))))))) (kPass z wk) 1 6 := by
  refine z_enterH (by decide) (Nat.le_of_ble_eq_true rfl) ?_
  intro p e s m below meth c A S hr hlocks hT hC hJ hN hA hK hP hD hS ls hl
  obtain ⟨hx, hb, hml, hown, hts⟩ := id S
  have hl : lv_has ls 4 [(0, .ref x), (1, .int wk), (2, .ref o)] := hl
  refine lv_aload_n hx hb dL_pass_0 rfl (lv_at hl 2 rfl) ?_
  refine lv_iconst (v := 0) hx hb dL_pass_1 (by decide) ?_
  refine lv_aload_n hx hb dL_pass_2 rfl (lv_at hl 0 rfl) ?_
  refine lv_iload_n hx hb dL_pass_3 rfl (lv_at hl 1 rfl) ?_
  refine z_callX (n := 1) (As := [.int wk]) (rest := [.int 0, .ref o]) S (c_X5_pass (wr := (o, .inl (cJ, 1, .inr (.inl fo))) :: wr) hfl hn hz hnx hkp hB wk) qm_L_31 ⟨⟨qi_X5_pass, qs_X5_pass, qn_X5, qc_X5_pass⟩, rfl, by decide, by decide, by decide +kernel⟩ ⟨Nat.le_of_ble_eq_true rfl, Nat.le_of_ble_eq_true rfl⟩ rfl rfl hJ hN hK hP hD hS hA 22 rfl rfl rfl hl.1 rfl (Nat.le_of_ble_eq_true rfl) dL_pass_4 ⟨Nat.le_of_ble_eq_true rfl, Nat.le_of_ble_eq_true rfl⟩ (fun hk H locs hP hD hS => ?_) (fun hk E hE ce q9 H locs hP hD hS h9 hv9 hcl => ?_)
  · refine lv_i2l (v := ((wkS z n (cl wk))).toInt64) hx hb dL_pass_7 rfl ?_
    refine va_last hx hb hK hP hD hS 139 4 (n := 1) (f := fo) rfl rfl (by unfold vp_in; decide) dL_pass_8 (fun H locs hP hD hS => ?_)
    have hP : va_P D vwCl (bkW cI cM ad (wkI z n (cl wk)) (txW cC t sg sz r (xoW x ad h t (hsW cB h ah (nI ((nx + 1) % 6)) (nI (min (kp + 1) 6)) (hbW cI cM ah (zup zh nx z) ((o, .inl (cJ, 1, .inr (.inl (vp_updL fo 0 ((wkS z n (cl wk))).toInt64)))) :: wr)))))) H := hP
    have hD : va_D A (bkW cI cM ad (wkI z n (cl wk)) (txW cC t sg sz r (xoW x ad h t (hsW cB h ah (nI ((nx + 1) % 6)) (nI (min (kp + 1) 6)) (hbW cI cM ah (zup zh nx z) ((o, .inl (cJ, 1, .inr (.inl (vp_updL fo 0 ((wkS z n (cl wk))).toInt64)))) :: wr)))))) := hD
    refine lv_goto (tgt := 18) hx hb dL_pass_9 (by decide) ?_
    refine lv_iconst (v := 0) hx hb dL_pass_18 (by decide) ?_
    exact z_iret hx hb hr hlocks hP hD hK hS (if_pos hk).symm (by rw [hk]) dL_pass_19
  · rcases kv_kPass with q | q | q
    · exact absurd q hk
    · obtain rfl : "java/lang/IllegalArgumentException" = E := Option.some.inj (by rw [q] at hE; exact hE)
      refine vx_catch (name := "java/lang/IllegalArgumentException") hown [] ⟨0, 9, 12, 25⟩ [⟨0, 9, 15, 13⟩] (by rw [hT]; rfl) (fun z hz => absurd hz List.not_mem_nil) (by decide) (by decide) (hts _ qk_L_25) (va_Nw.use rfl (hJ.2.2.1 _ (by decide +kernel))) h9 hv9 hcl ?_
      refine lv_astore_n (lv' := [(3, .ref q9), (0, .ref x), (1, .int wk), (2, .ref o)]) hx hb dL_pass_12 rfl hl (by decide) rfl (fun ls hl => ?_)
      refine lv_iconst (v := 1) hx hb dL_pass_13 (by decide) ?_
      exact z_iret hx hb hr hlocks hP hD hK hS (if_neg hk).symm (by rw [q]) dL_pass_14
    · obtain rfl : "java/lang/IllegalStateException" = E := Option.some.inj (by rw [q] at hE; exact hE)
      refine vx_catch (name := "java/lang/IllegalStateException") hown [⟨0, 9, 12, 25⟩] ⟨0, 9, 15, 13⟩ [] (by rw [hT]; rfl) (fun z hz => by
        simp only [List.mem_cons, List.not_mem_nil, or_false] at hz
        rcases hz with rfl
        · exact Or.inr ⟨by decide, "java/lang/IllegalArgumentException", hts _ qk_L_25, hC.2.2⟩) (by decide) (by decide) (hts _ qk_L_13) (va_Nw.use rfl (hJ.2.2.1 _ (by decide +kernel))) h9 hv9 hcl ?_
      refine lv_astore_n (lv' := [(3, .ref q9), (0, .ref x), (1, .int wk), (2, .ref o)]) hx hb dL_pass_15 rfl hl (by decide) rfl (fun ls hl => ?_)
      refine lv_iconst (v := 2) hx hb dL_pass_16 (by decide) ?_
      exact z_iret hx hb hr hlocks hP hD hK hS (if_neg hk).symm (by rw [q]) dL_pass_17
set_option maxHeartbeats 4000000 in
set_option maxRecDepth 100000 in
theorem c_L_set (hfl : l.stackTraces = false) {n : Nat} (hn : n ≤ 8) (hz : z 5 = nI n) {nx kp : Nat} (hnx : nx < 6) (hkp : kp ≤ 6) (hB : hBool z) (st v : Int32) : zH l D (zT cI cC cM cB cJ) yL_set cL_set 5 [(0, 10, 13, 19), (0, 10, 17, 25)] ({ frames := 7, cells := 1, slots := 6, locals := 113 } : Room) [.ref x, .int st, .int v, .ref o] (bkW cI cM ad z (txW cC t sg sz r (xoW x ad h t (hsW cB h ah (nI nx) (nI kp) (hbW cI cM ah zh ((o, .inl (cJ, 1, .inr (.inl fo))) :: wr)))))) (if (kSet st v) = 0 then (bkW cI cM ad (upd z (cl st) v) (txW cC t sg sz r (xoW x ad h t (hsW cB h ah (nI ((nx + 1) % 6)) (nI (min (kp + 1) 6)) (hbW cI cM ah (zup zh nx z) ((o, .inl (cJ, 1, .inr (.inl (vp_updL fo 0 ((z (cl st))).toInt64)))) :: wr)))))) else (bkW cI cM ad z (txW cC t sg sz r (xoW x ad h t (hsW cB h ah (nI nx) (nI kp) (hbW cI cM ah zh ((o, .inl (cJ, 1, .inr (.inl fo))) :: wr))))))) (kSet st v) 1 6 := by
  refine z_enterH (by decide) (Nat.le_of_ble_eq_true rfl) ?_
  intro p e s m below meth c A S hr hlocks hT hC hJ hN hA hK hP hD hS ls hl
  obtain ⟨hx, hb, hml, hown, hts⟩ := id S
  have hl : lv_has ls 5 [(0, .ref x), (1, .int st), (2, .int v), (3, .ref o)] := hl
  refine lv_aload_n hx hb dL_set_0 rfl (lv_at hl 3 rfl) ?_
  refine lv_iconst (v := 0) hx hb dL_set_1 (by decide) ?_
  refine lv_aload_n hx hb dL_set_2 rfl (lv_at hl 0 rfl) ?_
  refine lv_iload_n hx hb dL_set_3 rfl (lv_at hl 1 rfl) ?_
  refine lv_iload_n hx hb dL_set_4 rfl (lv_at hl 2 rfl) ?_
  refine z_callX (n := 2) (As := [.int st, .int v]) (rest := [.int 0, .ref o]) S (c_X5_set (wr := (o, .inl (cJ, 1, .inr (.inl fo))) :: wr) hfl hn hz hnx hkp hB st v) qm_L_34 ⟨⟨qi_X5_set, qs_X5_set, qn_X5, qc_X5_set⟩, rfl, by decide, by decide, by decide +kernel⟩ ⟨Nat.le_of_ble_eq_true rfl, Nat.le_of_ble_eq_true rfl⟩ rfl rfl hJ hN hK hP hD hS hA 22 rfl rfl rfl hl.1 rfl (Nat.le_of_ble_eq_true rfl) dL_set_5 ⟨Nat.le_of_ble_eq_true rfl, Nat.le_of_ble_eq_true rfl⟩ (fun hk H locs hP hD hS => ?_) (fun hk E hE ce q9 H locs hP hD hS h9 hv9 hcl => ?_)
  · refine lv_i2l (v := ((z (cl st))).toInt64) hx hb dL_set_8 rfl ?_
    refine va_last hx hb hK hP hD hS 139 4 (n := 1) (f := fo) rfl rfl (by unfold vp_in; decide) dL_set_9 (fun H locs hP hD hS => ?_)
    have hP : va_P D vwCl (bkW cI cM ad (upd z (cl st) v) (txW cC t sg sz r (xoW x ad h t (hsW cB h ah (nI ((nx + 1) % 6)) (nI (min (kp + 1) 6)) (hbW cI cM ah (zup zh nx z) ((o, .inl (cJ, 1, .inr (.inl (vp_updL fo 0 ((z (cl st))).toInt64)))) :: wr)))))) H := hP
    have hD : va_D A (bkW cI cM ad (upd z (cl st) v) (txW cC t sg sz r (xoW x ad h t (hsW cB h ah (nI ((nx + 1) % 6)) (nI (min (kp + 1) 6)) (hbW cI cM ah (zup zh nx z) ((o, .inl (cJ, 1, .inr (.inl (vp_updL fo 0 ((z (cl st))).toInt64)))) :: wr)))))) := hD
    refine lv_goto (tgt := 21) hx hb dL_set_10 (by decide) ?_
    refine lv_iconst (v := 0) hx hb dL_set_21 (by decide) ?_
    exact z_iret hx hb hr hlocks hP hD hK hS (if_pos hk).symm (by rw [hk]) dL_set_22
  · rcases kv_kSet with q | q | q
    · exact absurd q hk
    · obtain rfl : "java/lang/IndexOutOfBoundsException" = E := Option.some.inj (by rw [q] at hE; exact hE)
      refine vx_catch (name := "java/lang/IndexOutOfBoundsException") hown [] ⟨0, 10, 13, 19⟩ [⟨0, 10, 17, 25⟩] (by rw [hT]; rfl) (fun z hz => absurd hz List.not_mem_nil) (by decide) (by decide) (hts _ qk_L_19) (va_Nw.use rfl (hJ.2.2.1 _ (by decide +kernel))) h9 hv9 hcl ?_
      refine lv_astore (lv' := [(4, .ref q9), (0, .ref x), (1, .int st), (2, .int v), (3, .ref o)]) hx hb dL_set_13 hl (by decide) rfl (fun ls hl => ?_)
      refine lv_iconst (v := 1) hx hb dL_set_15 (by decide) ?_
      exact z_iret hx hb hr hlocks hP hD hK hS (if_neg hk).symm (by rw [q]) dL_set_16
    · obtain rfl : "java/lang/IllegalArgumentException" = E := Option.some.inj (by rw [q] at hE; exact hE)
      refine vx_catch (name := "java/lang/IllegalArgumentException") hown [⟨0, 10, 13, 19⟩] ⟨0, 10, 17, 25⟩ [] (by rw [hT]; rfl) (fun z hz => by
        simp only [List.mem_cons, List.not_mem_nil, or_false] at hz
        rcases hz with rfl
        · exact Or.inr ⟨by decide, "java/lang/IndexOutOfBoundsException", hts _ qk_L_19, hC.1⟩) (by decide) (by decide) (hts _ qk_L_25) (va_Nw.use rfl (hJ.2.2.1 _ (by decide +kernel))) h9 hv9 hcl ?_
      refine lv_astore (lv' := [(4, .ref q9), (0, .ref x), (1, .int st), (2, .int v), (3, .ref o)]) hx hb dL_set_17 hl (by decide) rfl (fun ls hl => ?_)
      refine lv_iconst (v := 2) hx hb dL_set_19 (by decide) ?_
      exact z_iret hx hb hr hlocks hP hD hK hS (if_neg hk).symm (by rw [q]) dL_set_20
set_option maxHeartbeats 4000000 in
set_option maxRecDepth 100000 in
theorem c_L_move (hfl : l.stackTraces = false) {n : Nat} (hn : n ≤ 8) (hz : z 5 = nI n) {nx kp : Nat} (hnx : nx < 6) (hkp : kp ≤ 6) (hB : hBool z) (mb mn : Int32) : zH l D (zT cI cC cM cB cJ) yL_move cL_move 5 [(0, 10, 13, 19), (0, 10, 17, 25), (0, 10, 21, 13)] ({ frames := 7, cells := 1, slots := 6, locals := 112 } : Room) [.ref x, .int mb, .int mn, .ref o] (bkW cI cM ad z (txW cC t sg sz r (xoW x ad h t (hsW cB h ah (nI nx) (nI kp) (hbW cI cM ah zh ((o, .inl (cJ, 1, .inr (.inl fo))) :: wr)))))) (if (kMove z n mb mn) = 0 then (bkW cI cM ad (upd (upd z 10 mb) 11 mn) (txW cC t sg sz r (xoW x ad h t (hsW cB h ah (nI ((nx + 1) % 6)) (nI (min (kp + 1) 6)) (hbW cI cM ah (zup zh nx z) ((o, .inl (cJ, 1, .inr (.inl (vp_updL fo 0 ((cntT (upd (upd z 10 mb) 11 mn) n - 1)).toInt64)))) :: wr)))))) else (bkW cI cM ad z (txW cC t sg sz r (xoW x ad h t (hsW cB h ah (nI nx) (nI kp) (hbW cI cM ah zh ((o, .inl (cJ, 1, .inr (.inl fo))) :: wr))))))) (kMove z n mb mn) 1 6 := by
  refine z_enterH (by decide) (Nat.le_of_ble_eq_true rfl) ?_
  intro p e s m below meth c A S hr hlocks hT hC hJ hN hA hK hP hD hS ls hl
  obtain ⟨hx, hb, hml, hown, hts⟩ := id S
  have hl : lv_has ls 5 [(0, .ref x), (1, .int mb), (2, .int mn), (3, .ref o)] := hl
  refine lv_aload_n hx hb dL_move_0 rfl (lv_at hl 3 rfl) ?_
  refine lv_iconst (v := 0) hx hb dL_move_1 (by decide) ?_
  refine lv_aload_n hx hb dL_move_2 rfl (lv_at hl 0 rfl) ?_
  refine lv_iload_n hx hb dL_move_3 rfl (lv_at hl 1 rfl) ?_
  refine lv_iload_n hx hb dL_move_4 rfl (lv_at hl 2 rfl) ?_
  refine z_callX (n := 2) (As := [.int mb, .int mn]) (rest := [.int 0, .ref o]) S (c_X5_move (wr := (o, .inl (cJ, 1, .inr (.inl fo))) :: wr) hfl hn hz hnx hkp hB mb mn) qm_L_37 ⟨⟨qi_X5_move, qs_X5_move, qn_X5, qc_X5_move⟩, rfl, by decide, by decide, by decide +kernel⟩ ⟨Nat.le_of_ble_eq_true rfl, Nat.le_of_ble_eq_true rfl⟩ rfl rfl hJ hN hK hP hD hS hA 22 rfl rfl rfl hl.1 rfl (Nat.le_of_ble_eq_true rfl) dL_move_5 ⟨Nat.le_of_ble_eq_true rfl, Nat.le_of_ble_eq_true rfl⟩ (fun hk H locs hP hD hS => ?_) (fun hk E hE ce q9 H locs hP hD hS h9 hv9 hcl => ?_)
  · refine lv_i2l (v := ((cntT (upd (upd z 10 mb) 11 mn) n - 1)).toInt64) hx hb dL_move_8 rfl ?_
    refine va_last hx hb hK hP hD hS 139 4 (n := 1) (f := fo) rfl rfl (by unfold vp_in; decide) dL_move_9 (fun H locs hP hD hS => ?_)
    have hP : va_P D vwCl (bkW cI cM ad (upd (upd z 10 mb) 11 mn) (txW cC t sg sz r (xoW x ad h t (hsW cB h ah (nI ((nx + 1) % 6)) (nI (min (kp + 1) 6)) (hbW cI cM ah (zup zh nx z) ((o, .inl (cJ, 1, .inr (.inl (vp_updL fo 0 ((cntT (upd (upd z 10 mb) 11 mn) n - 1)).toInt64)))) :: wr)))))) H := hP
    have hD : va_D A (bkW cI cM ad (upd (upd z 10 mb) 11 mn) (txW cC t sg sz r (xoW x ad h t (hsW cB h ah (nI ((nx + 1) % 6)) (nI (min (kp + 1) 6)) (hbW cI cM ah (zup zh nx z) ((o, .inl (cJ, 1, .inr (.inl (vp_updL fo 0 ((cntT (upd (upd z 10 mb) 11 mn) n - 1)).toInt64)))) :: wr)))))) := hD
    refine lv_goto (tgt := 25) hx hb dL_move_10 (by decide) ?_
    refine lv_iconst (v := 0) hx hb dL_move_25 (by decide) ?_
    exact z_iret hx hb hr hlocks hP hD hK hS (if_pos hk).symm (by rw [hk]) dL_move_26
  · rcases kv_kMove with q | q | q | q
    · exact absurd q hk
    · obtain rfl : "java/lang/IndexOutOfBoundsException" = E := Option.some.inj (by rw [q] at hE; exact hE)
      refine vx_catch (name := "java/lang/IndexOutOfBoundsException") hown [] ⟨0, 10, 13, 19⟩ [⟨0, 10, 17, 25⟩, ⟨0, 10, 21, 13⟩] (by rw [hT]; rfl) (fun z hz => absurd hz List.not_mem_nil) (by decide) (by decide) (hts _ qk_L_19) (va_Nw.use rfl (hJ.2.2.1 _ (by decide +kernel))) h9 hv9 hcl ?_
      refine lv_astore (lv' := [(4, .ref q9), (0, .ref x), (1, .int mb), (2, .int mn), (3, .ref o)]) hx hb dL_move_13 hl (by decide) rfl (fun ls hl => ?_)
      refine lv_iconst (v := 1) hx hb dL_move_15 (by decide) ?_
      exact z_iret hx hb hr hlocks hP hD hK hS (if_neg hk).symm (by rw [q]) dL_move_16
    · obtain rfl : "java/lang/IllegalArgumentException" = E := Option.some.inj (by rw [q] at hE; exact hE)
      refine vx_catch (name := "java/lang/IllegalArgumentException") hown [⟨0, 10, 13, 19⟩] ⟨0, 10, 17, 25⟩ [⟨0, 10, 21, 13⟩] (by rw [hT]; rfl) (fun z hz => by
        simp only [List.mem_cons, List.not_mem_nil, or_false] at hz
        rcases hz with rfl
        · exact Or.inr ⟨by decide, "java/lang/IndexOutOfBoundsException", hts _ qk_L_19, hC.1⟩) (by decide) (by decide) (hts _ qk_L_25) (va_Nw.use rfl (hJ.2.2.1 _ (by decide +kernel))) h9 hv9 hcl ?_
      refine lv_astore (lv' := [(4, .ref q9), (0, .ref x), (1, .int mb), (2, .int mn), (3, .ref o)]) hx hb dL_move_17 hl (by decide) rfl (fun ls hl => ?_)
      refine lv_iconst (v := 2) hx hb dL_move_19 (by decide) ?_
      exact z_iret hx hb hr hlocks hP hD hK hS (if_neg hk).symm (by rw [q]) dL_move_20
    · obtain rfl : "java/lang/IllegalStateException" = E := Option.some.inj (by rw [q] at hE; exact hE)
      refine vx_catch (name := "java/lang/IllegalStateException") hown [⟨0, 10, 13, 19⟩, ⟨0, 10, 17, 25⟩] ⟨0, 10, 21, 13⟩ [] (by rw [hT]; rfl) (fun z hz => by
        simp only [List.mem_cons, List.not_mem_nil, or_false] at hz
        rcases hz with rfl | rfl
        · exact Or.inr ⟨by decide, "java/lang/IndexOutOfBoundsException", hts _ qk_L_19, hC.2.1⟩
        · exact Or.inr ⟨by decide, "java/lang/IllegalArgumentException", hts _ qk_L_25, hC.2.2⟩) (by decide) (by decide) (hts _ qk_L_13) (va_Nw.use rfl (hJ.2.2.1 _ (by decide +kernel))) h9 hv9 hcl ?_
      refine lv_astore (lv' := [(4, .ref q9), (0, .ref x), (1, .int mb), (2, .int mn), (3, .ref o)]) hx hb dL_move_21 hl (by decide) rfl (fun ls hl => ?_)
      refine lv_iconst (v := 3) hx hb dL_move_23 (by decide) ?_
      exact z_iret hx hb hr hlocks hP hD hK hS (if_neg hk).symm (by rw [q]) dL_move_24
set_option maxHeartbeats 4000000 in
set_option maxRecDepth 100000 in
theorem c_L_vote_b (hfl : l.stackTraces = false) {n : Nat} (hn : n ≤ 8) (hz : z 5 = nI n) {nx kp : Nat} (hnx : nx < 6) (hkp : kp ≤ 6) (hB : hBool z) {d : Nat} (hd : d < n) (hz2 : z 10 = nI d) (mb bf : Int32) : zH l D (zT cI cC cM cB cJ) yL_vote cL_vote 5 [(0, 10, 13, 19), (0, 10, 17, 13)] ({ frames := 7, cells := 1, slots := 6, locals := 112 } : Room) [.ref x, .int mb, .int bf, .ref o] (bkW cI cM ad z (txW cC t sg sz r (xoW x ad h t (hsW cB h ah (nI nx) (nI kp) (hbW cI cM ah zh ((o, .inl (cJ, 1, .inr (.inl fo))) :: wr)))))) (if (kVote z n mb) = 0 then (bkW cI cM ad (setZ (upd z (142 + cl mb) (if bf = 0 then 2 else 1)) n d) (txW cC t sg sz r (xoW x ad h t (hsW cB h ah (nI ((nx + 1) % 6)) (nI (min (kp + 1) 6)) (hbW cI cM ah (zup zh nx z) ((o, .inl (cJ, 1, .inr (.inl (vp_updL fo 0 ((setR (upd z (142 + cl mb) (if bf = 0 then 2 else 1)) n)).toInt64)))) :: wr)))))) else (bkW cI cM ad z (txW cC t sg sz r (xoW x ad h t (hsW cB h ah (nI nx) (nI kp) (hbW cI cM ah zh ((o, .inl (cJ, 1, .inr (.inl fo))) :: wr))))))) (kVote z n mb) 1 6 := by
  refine z_enterH (by decide) (Nat.le_of_ble_eq_true rfl) ?_
  intro p e s m below meth c A S hr hlocks hT hC hJ hN hA hK hP hD hS ls hl
  obtain ⟨hx, hb, hml, hown, hts⟩ := id S
  have hl : lv_has ls 5 [(0, .ref x), (1, .int mb), (2, .int bf), (3, .ref o)] := hl
  refine lv_aload_n hx hb dL_vote_0 rfl (lv_at hl 3 rfl) ?_
  refine lv_iconst (v := 0) hx hb dL_vote_1 (by decide) ?_
  refine lv_aload_n hx hb dL_vote_2 rfl (lv_at hl 0 rfl) ?_
  refine lv_iload_n hx hb dL_vote_3 rfl (lv_at hl 1 rfl) ?_
  refine lv_iload_n hx hb dL_vote_4 rfl (lv_at hl 2 rfl) ?_
  refine z_callX (n := 2) (As := [.int mb, .int bf]) (rest := [.int 0, .ref o]) S (c_X5_vote_b (wr := (o, .inl (cJ, 1, .inr (.inl fo))) :: wr) hfl hn hz hnx hkp hB hd hz2 mb bf) qm_L_40 ⟨⟨qi_X5_vote, qs_X5_vote, qn_X5, qc_X5_vote⟩, rfl, by decide, by decide, by decide +kernel⟩ ⟨Nat.le_of_ble_eq_true rfl, Nat.le_of_ble_eq_true rfl⟩ rfl rfl hJ hN hK hP hD hS hA 22 rfl rfl rfl hl.1 rfl (Nat.le_of_ble_eq_true rfl) dL_vote_5 ⟨Nat.le_of_ble_eq_true rfl, Nat.le_of_ble_eq_true rfl⟩ (fun hk H locs hP hD hS => ?_) (fun hk E hE ce q9 H locs hP hD hS h9 hv9 hcl => ?_)
  · refine lv_i2l (v := ((setR (upd z (142 + cl mb) (if bf = 0 then 2 else 1)) n)).toInt64) hx hb dL_vote_8 rfl ?_
    refine va_last hx hb hK hP hD hS 139 4 (n := 1) (f := fo) rfl rfl (by unfold vp_in; decide) dL_vote_9 (fun H locs hP hD hS => ?_)
    have hP : va_P D vwCl (bkW cI cM ad (setZ (upd z (142 + cl mb) (if bf = 0 then 2 else 1)) n d) (txW cC t sg sz r (xoW x ad h t (hsW cB h ah (nI ((nx + 1) % 6)) (nI (min (kp + 1) 6)) (hbW cI cM ah (zup zh nx z) ((o, .inl (cJ, 1, .inr (.inl (vp_updL fo 0 ((setR (upd z (142 + cl mb) (if bf = 0 then 2 else 1)) n)).toInt64)))) :: wr)))))) H := hP
    have hD : va_D A (bkW cI cM ad (setZ (upd z (142 + cl mb) (if bf = 0 then 2 else 1)) n d) (txW cC t sg sz r (xoW x ad h t (hsW cB h ah (nI ((nx + 1) % 6)) (nI (min (kp + 1) 6)) (hbW cI cM ah (zup zh nx z) ((o, .inl (cJ, 1, .inr (.inl (vp_updL fo 0 ((setR (upd z (142 + cl mb) (if bf = 0 then 2 else 1)) n)).toInt64)))) :: wr)))))) := hD
    refine lv_goto (tgt := 21) hx hb dL_vote_10 (by decide) ?_
    refine lv_iconst (v := 0) hx hb dL_vote_21 (by decide) ?_
    exact z_iret hx hb hr hlocks hP hD hK hS (if_pos hk).symm (by rw [hk]) dL_vote_22
  · rcases kv_kVote with q | q | q
    · exact absurd q hk
    · obtain rfl : "java/lang/IndexOutOfBoundsException" = E := Option.some.inj (by rw [q] at hE; exact hE)
      refine vx_catch (name := "java/lang/IndexOutOfBoundsException") hown [] ⟨0, 10, 13, 19⟩ [⟨0, 10, 17, 13⟩] (by rw [hT]; rfl) (fun z hz => absurd hz List.not_mem_nil) (by decide) (by decide) (hts _ qk_L_19) (va_Nw.use rfl (hJ.2.2.1 _ (by decide +kernel))) h9 hv9 hcl ?_
      refine lv_astore (lv' := [(4, .ref q9), (0, .ref x), (1, .int mb), (2, .int bf), (3, .ref o)]) hx hb dL_vote_13 hl (by decide) rfl (fun ls hl => ?_)
      refine lv_iconst (v := 1) hx hb dL_vote_15 (by decide) ?_
      exact z_iret hx hb hr hlocks hP hD hK hS (if_neg hk).symm (by rw [q]) dL_vote_16
    · obtain rfl : "java/lang/IllegalStateException" = E := Option.some.inj (by rw [q] at hE; exact hE)
      refine vx_catch (name := "java/lang/IllegalStateException") hown [⟨0, 10, 13, 19⟩] ⟨0, 10, 17, 13⟩ [] (by rw [hT]; rfl) (fun z hz => by
        simp only [List.mem_cons, List.not_mem_nil, or_false] at hz
        rcases hz with rfl
        · exact Or.inr ⟨by decide, "java/lang/IndexOutOfBoundsException", hts _ qk_L_19, hC.2.1⟩) (by decide) (by decide) (hts _ qk_L_13) (va_Nw.use rfl (hJ.2.2.1 _ (by decide +kernel))) h9 hv9 hcl ?_
      refine lv_astore (lv' := [(4, .ref q9), (0, .ref x), (1, .int mb), (2, .int bf), (3, .ref o)]) hx hb dL_vote_17 hl (by decide) rfl (fun ls hl => ?_)
      refine lv_iconst (v := 2) hx hb dL_vote_19 (by decide) ?_
      exact z_iret hx hb hr hlocks hP hD hK hS (if_neg hk).symm (by rw [q]) dL_vote_20
set_option maxHeartbeats 4000000 in
set_option maxRecDepth 100000 in
theorem c_L_vote_a (hfl : l.stackTraces = false) {n : Nat} (hn : n ≤ 8) (hz : z 5 = nI n) {nx kp : Nat} (hnx : nx < 6) (hkp : kp ≤ 6) (hB : hBool z) (hz2 : z 10 = -1) (mb bf : Int32) : zH l D (zT cI cC cM cB cJ) yL_vote cL_vote 5 [(0, 10, 13, 19), (0, 10, 17, 13)] ({ frames := 7, cells := 1, slots := 6, locals := 112 } : Room) [.ref x, .int mb, .int bf, .ref o] (bkW cI cM ad z (txW cC t sg sz r (xoW x ad h t (hsW cB h ah (nI nx) (nI kp) (hbW cI cM ah zh ((o, .inl (cJ, 1, .inr (.inl fo))) :: wr)))))) (if (kVote z n mb) = 0 then (bkW cI cM ad z (txW cC t sg sz r (xoW x ad h t (hsW cB h ah (nI nx) (nI kp) (hbW cI cM ah zh ((o, .inl (cJ, 1, .inr (.inl (vp_updL fo 0 (0).toInt64)))) :: wr)))))) else (bkW cI cM ad z (txW cC t sg sz r (xoW x ad h t (hsW cB h ah (nI nx) (nI kp) (hbW cI cM ah zh ((o, .inl (cJ, 1, .inr (.inl fo))) :: wr))))))) (kVote z n mb) 1 6 := by
  refine z_enterH (by decide) (Nat.le_of_ble_eq_true rfl) ?_
  intro p e s m below meth c A S hr hlocks hT hC hJ hN hA hK hP hD hS ls hl
  obtain ⟨hx, hb, hml, hown, hts⟩ := id S
  have hl : lv_has ls 5 [(0, .ref x), (1, .int mb), (2, .int bf), (3, .ref o)] := hl
  refine lv_aload_n hx hb dL_vote_0 rfl (lv_at hl 3 rfl) ?_
  refine lv_iconst (v := 0) hx hb dL_vote_1 (by decide) ?_
  refine lv_aload_n hx hb dL_vote_2 rfl (lv_at hl 0 rfl) ?_
  refine lv_iload_n hx hb dL_vote_3 rfl (lv_at hl 1 rfl) ?_
  refine lv_iload_n hx hb dL_vote_4 rfl (lv_at hl 2 rfl) ?_
  refine z_callX (n := 2) (As := [.int mb, .int bf]) (rest := [.int 0, .ref o]) S (c_X5_vote_a (wr := (o, .inl (cJ, 1, .inr (.inl fo))) :: wr) hfl hn hz hnx hkp hB hz2 mb bf) qm_L_40 ⟨⟨qi_X5_vote, qs_X5_vote, qn_X5, qc_X5_vote⟩, rfl, by decide, by decide, by decide +kernel⟩ ⟨Nat.le_of_ble_eq_true rfl, Nat.le_of_ble_eq_true rfl⟩ rfl rfl hJ hN hK hP hD hS hA 22 rfl rfl rfl hl.1 rfl (Nat.le_of_ble_eq_true rfl) dL_vote_5 ⟨Nat.le_of_ble_eq_true rfl, Nat.le_of_ble_eq_true rfl⟩ (fun hk H locs hP hD hS => ?_) (fun hk E hE ce q9 H locs hP hD hS h9 hv9 hcl => ?_)
  · refine lv_i2l (v := (0).toInt64) hx hb dL_vote_8 rfl ?_
    refine va_last hx hb hK hP hD hS 139 4 (n := 1) (f := fo) rfl rfl (by unfold vp_in; decide) dL_vote_9 (fun H locs hP hD hS => ?_)
    have hP : va_P D vwCl (bkW cI cM ad z (txW cC t sg sz r (xoW x ad h t (hsW cB h ah (nI nx) (nI kp) (hbW cI cM ah zh ((o, .inl (cJ, 1, .inr (.inl (vp_updL fo 0 (0).toInt64)))) :: wr)))))) H := hP
    have hD : va_D A (bkW cI cM ad z (txW cC t sg sz r (xoW x ad h t (hsW cB h ah (nI nx) (nI kp) (hbW cI cM ah zh ((o, .inl (cJ, 1, .inr (.inl (vp_updL fo 0 (0).toInt64)))) :: wr)))))) := hD
    refine lv_goto (tgt := 21) hx hb dL_vote_10 (by decide) ?_
    refine lv_iconst (v := 0) hx hb dL_vote_21 (by decide) ?_
    exact z_iret hx hb hr hlocks hP hD hK hS (if_pos hk).symm (by rw [hk]) dL_vote_22
  · rcases kv_kVote with q | q | q
    · exact absurd q hk
    · obtain rfl : "java/lang/IndexOutOfBoundsException" = E := Option.some.inj (by rw [q] at hE; exact hE)
      refine vx_catch (name := "java/lang/IndexOutOfBoundsException") hown [] ⟨0, 10, 13, 19⟩ [⟨0, 10, 17, 13⟩] (by rw [hT]; rfl) (fun z hz => absurd hz List.not_mem_nil) (by decide) (by decide) (hts _ qk_L_19) (va_Nw.use rfl (hJ.2.2.1 _ (by decide +kernel))) h9 hv9 hcl ?_
      refine lv_astore (lv' := [(4, .ref q9), (0, .ref x), (1, .int mb), (2, .int bf), (3, .ref o)]) hx hb dL_vote_13 hl (by decide) rfl (fun ls hl => ?_)
      refine lv_iconst (v := 1) hx hb dL_vote_15 (by decide) ?_
      exact z_iret hx hb hr hlocks hP hD hK hS (if_neg hk).symm (by rw [q]) dL_vote_16
    · obtain rfl : "java/lang/IllegalStateException" = E := Option.some.inj (by rw [q] at hE; exact hE)
      refine vx_catch (name := "java/lang/IllegalStateException") hown [⟨0, 10, 13, 19⟩] ⟨0, 10, 17, 13⟩ [] (by rw [hT]; rfl) (fun z hz => by
        simp only [List.mem_cons, List.not_mem_nil, or_false] at hz
        rcases hz with rfl
        · exact Or.inr ⟨by decide, "java/lang/IndexOutOfBoundsException", hts _ qk_L_19, hC.2.1⟩) (by decide) (by decide) (hts _ qk_L_13) (va_Nw.use rfl (hJ.2.2.1 _ (by decide +kernel))) h9 hv9 hcl ?_
      refine lv_astore (lv' := [(4, .ref q9), (0, .ref x), (1, .int mb), (2, .int bf), (3, .ref o)]) hx hb dL_vote_17 hl (by decide) rfl (fun ls hl => ?_)
      refine lv_iconst (v := 2) hx hb dL_vote_19 (by decide) ?_
      exact z_iret hx hb hr hlocks hP hD hK hS (if_neg hk).symm (by rw [q]) dL_vote_20
set_option maxHeartbeats 4000000 in
set_option maxRecDepth 100000 in
theorem c_L_takeBack (hfl : l.stackTraces = false) {n : Nat} (hn : n ≤ 8) (hz : z 5 = nI n) {nx kp : Nat} (hnx : nx < 6) (hkp : kp ≤ 6) (hB : hBool z) : zH l D (zT cI cC cM cB cJ) yL_takeBack cL_takeBack 3 [(0, 8, 11, 13)] ({ frames := 7, cells := 1, slots := 6, locals := 111 } : Room) [.ref x, .ref o] (bkW cI cM ad z (txW cC t sg sz r (xoW x ad h t (hsW cB h ah (nI nx) (nI kp) (hbW cI cM ah zh ((o, .inl (cJ, 1, .inr (.inl fo))) :: wr)))))) (if (kTake z) = 0 then (bkW cI cM ad (dropZ z n) (txW cC t sg sz r (xoW x ad h t (hsW cB h ah (nI ((nx + 1) % 6)) (nI (min (kp + 1) 6)) (hbW cI cM ah (zup zh nx z) ((o, .inl (cJ, 1, .inr (.inl (vp_updL fo 0 ((cntB z 1 n + cntB z 2 n)).toInt64)))) :: wr)))))) else (bkW cI cM ad z (txW cC t sg sz r (xoW x ad h t (hsW cB h ah (nI nx) (nI kp) (hbW cI cM ah zh ((o, .inl (cJ, 1, .inr (.inl fo))) :: wr))))))) (kTake z) 1 6 := by
  refine z_enterH (by decide) (Nat.le_of_ble_eq_true rfl) ?_
  intro p e s m below meth c A S hr hlocks hT hC hJ hN hA hK hP hD hS ls hl
  obtain ⟨hx, hb, hml, hown, hts⟩ := id S
  have hl : lv_has ls 3 [(0, .ref x), (1, .ref o)] := hl
  refine lv_aload_n hx hb dL_takeBack_0 rfl (lv_at hl 1 rfl) ?_
  refine lv_iconst (v := 0) hx hb dL_takeBack_1 (by decide) ?_
  refine lv_aload_n hx hb dL_takeBack_2 rfl (lv_at hl 0 rfl) ?_
  refine z_callX (n := 0) (As := []) (rest := [.int 0, .ref o]) S (c_X5_takeBack (wr := (o, .inl (cJ, 1, .inr (.inl fo))) :: wr) hfl hn hz hnx hkp hB) qm_L_44 ⟨⟨qi_X5_takeBack, qs_X5_takeBack, qn_X5, qc_X5_takeBack⟩, rfl, by decide, by decide, by decide +kernel⟩ ⟨Nat.le_of_ble_eq_true rfl, Nat.le_of_ble_eq_true rfl⟩ rfl rfl hJ hN hK hP hD hS hA 22 rfl rfl rfl hl.1 rfl (Nat.le_of_ble_eq_true rfl) dL_takeBack_3 ⟨Nat.le_of_ble_eq_true rfl, Nat.le_of_ble_eq_true rfl⟩ (fun hk H locs hP hD hS => ?_) (fun hk E hE ce q9 H locs hP hD hS h9 hv9 hcl => ?_)
  · refine lv_i2l (v := ((cntB z 1 n + cntB z 2 n)).toInt64) hx hb dL_takeBack_6 rfl ?_
    refine va_last hx hb hK hP hD hS 139 4 (n := 1) (f := fo) rfl rfl (by unfold vp_in; decide) dL_takeBack_7 (fun H locs hP hD hS => ?_)
    have hP : va_P D vwCl (bkW cI cM ad (dropZ z n) (txW cC t sg sz r (xoW x ad h t (hsW cB h ah (nI ((nx + 1) % 6)) (nI (min (kp + 1) 6)) (hbW cI cM ah (zup zh nx z) ((o, .inl (cJ, 1, .inr (.inl (vp_updL fo 0 ((cntB z 1 n + cntB z 2 n)).toInt64)))) :: wr)))))) H := hP
    have hD : va_D A (bkW cI cM ad (dropZ z n) (txW cC t sg sz r (xoW x ad h t (hsW cB h ah (nI ((nx + 1) % 6)) (nI (min (kp + 1) 6)) (hbW cI cM ah (zup zh nx z) ((o, .inl (cJ, 1, .inr (.inl (vp_updL fo 0 ((cntB z 1 n + cntB z 2 n)).toInt64)))) :: wr)))))) := hD
    refine lv_goto (tgt := 14) hx hb dL_takeBack_8 (by decide) ?_
    refine lv_iconst (v := 0) hx hb dL_takeBack_14 (by decide) ?_
    exact z_iret hx hb hr hlocks hP hD hK hS (if_pos hk).symm (by rw [hk]) dL_takeBack_15
  · rcases kv_kTake with q | q
    · exact absurd q hk
    · obtain rfl : "java/lang/IllegalStateException" = E := Option.some.inj (by rw [q] at hE; exact hE)
      refine vx_catch (name := "java/lang/IllegalStateException") hown [] ⟨0, 8, 11, 13⟩ [] (by rw [hT]; rfl) (fun z hz => absurd hz List.not_mem_nil) (by decide) (by decide) (hts _ qk_L_13) (va_Nw.use rfl (hJ.2.2.1 _ (by decide +kernel))) h9 hv9 hcl ?_
      refine lv_astore_n (lv' := [(2, .ref q9), (0, .ref x), (1, .ref o)]) hx hb dL_takeBack_11 rfl hl (by decide) rfl (fun ls hl => ?_)
      refine lv_iconst (v := 1) hx hb dL_takeBack_12 (by decide) ?_
      exact z_iret hx hb hr hlocks hP hD hK hS (if_neg hk).symm (by rw [q]) dL_takeBack_13
set_option maxHeartbeats 4000000 in
set_option maxRecDepth 100000 in
theorem c_L_append (hfl : l.stackTraces = false) {nx kp nb : Nat} (hnb : nb ≤ 60) (cd : Int32) : zH l D (zT cI cC cM cB cJ) yL_append cL_append 4 [(0, 9, 12, 25), (0, 9, 15, 13)] ({ frames := 7, cells := 1, slots := 6, locals := 111 } : Room) [.ref x, .int cd, .ref o] (bkW cI cM ad z (txW cC t sg (nI nb) r (xoW x ad h t (hsW cB h ah (nI nx) (nI kp) (hbW cI cM ah zh ((o, .inl (cJ, 1, .inr (.inl fo))) :: wr)))))) (if (kAppend nb cd) = 0 then (bkW cI cM ad z (txW cC t (upd sg nb cd) (nI (nb + 1)) r (xoW x ad h t (hsW cB h ah (nI nx) (nI kp) (hbW cI cM ah zh ((o, .inl (cJ, 1, .inr (.inl (vp_updL fo 0 ((nI (nb + 1))).toInt64)))) :: wr)))))) else (bkW cI cM ad z (txW cC t sg (nI nb) r (xoW x ad h t (hsW cB h ah (nI nx) (nI kp) (hbW cI cM ah zh ((o, .inl (cJ, 1, .inr (.inl fo))) :: wr))))))) (kAppend nb cd) 1 6 := by
  refine z_enterH (by decide) (Nat.le_of_ble_eq_true rfl) ?_
  intro p e s m below meth c A S hr hlocks hT hC hJ hN hA hK hP hD hS ls hl
  obtain ⟨hx, hb, hml, hown, hts⟩ := id S
  have hl : lv_has ls 4 [(0, .ref x), (1, .int cd), (2, .ref o)] := hl
  refine lv_aload_n hx hb dL_append_0 rfl (lv_at hl 2 rfl) ?_
  refine lv_iconst (v := 0) hx hb dL_append_1 (by decide) ?_
  refine lv_aload_n hx hb dL_append_2 rfl (lv_at hl 0 rfl) ?_
  refine lv_iload_n hx hb dL_append_3 rfl (lv_at hl 1 rfl) ?_
  refine z_callX (n := 1) (As := [.int cd]) (rest := [.int 0, .ref o]) S (c_X5_append (wr := (o, .inl (cJ, 1, .inr (.inl fo))) :: wr) hfl hnb cd) qm_L_47 ⟨⟨qi_X5_append, qs_X5_append, qn_X5, qc_X5_append⟩, rfl, by decide, by decide, by decide +kernel⟩ ⟨Nat.le_of_ble_eq_true rfl, Nat.le_of_ble_eq_true rfl⟩ rfl rfl hJ hN hK hP hD hS hA 22 rfl rfl rfl hl.1 rfl (Nat.le_of_ble_eq_true rfl) dL_append_4 ⟨Nat.le_of_ble_eq_true rfl, Nat.le_of_ble_eq_true rfl⟩ (fun hk H locs hP hD hS => ?_) (fun hk E hE ce q9 H locs hP hD hS h9 hv9 hcl => ?_)
  · refine lv_i2l (v := ((nI (nb + 1))).toInt64) hx hb dL_append_7 rfl ?_
    refine va_last hx hb hK hP hD hS 139 4 (n := 1) (f := fo) rfl rfl (by unfold vp_in; decide) dL_append_8 (fun H locs hP hD hS => ?_)
    have hP : va_P D vwCl (bkW cI cM ad z (txW cC t (upd sg nb cd) (nI (nb + 1)) r (xoW x ad h t (hsW cB h ah (nI nx) (nI kp) (hbW cI cM ah zh ((o, .inl (cJ, 1, .inr (.inl (vp_updL fo 0 ((nI (nb + 1))).toInt64)))) :: wr)))))) H := hP
    have hD : va_D A (bkW cI cM ad z (txW cC t (upd sg nb cd) (nI (nb + 1)) r (xoW x ad h t (hsW cB h ah (nI nx) (nI kp) (hbW cI cM ah zh ((o, .inl (cJ, 1, .inr (.inl (vp_updL fo 0 ((nI (nb + 1))).toInt64)))) :: wr)))))) := hD
    refine lv_goto (tgt := 18) hx hb dL_append_9 (by decide) ?_
    refine lv_iconst (v := 0) hx hb dL_append_18 (by decide) ?_
    exact z_iret hx hb hr hlocks hP hD hK hS (if_pos hk).symm (by rw [hk]) dL_append_19
  · rcases kv_kAppend with q | q | q
    · exact absurd q hk
    · obtain rfl : "java/lang/IllegalArgumentException" = E := Option.some.inj (by rw [q] at hE; exact hE)
      refine vx_catch (name := "java/lang/IllegalArgumentException") hown [] ⟨0, 9, 12, 25⟩ [⟨0, 9, 15, 13⟩] (by rw [hT]; rfl) (fun z hz => absurd hz List.not_mem_nil) (by decide) (by decide) (hts _ qk_L_25) (va_Nw.use rfl (hJ.2.2.1 _ (by decide +kernel))) h9 hv9 hcl ?_
      refine lv_astore_n (lv' := [(3, .ref q9), (0, .ref x), (1, .int cd), (2, .ref o)]) hx hb dL_append_12 rfl hl (by decide) rfl (fun ls hl => ?_)
      refine lv_iconst (v := 1) hx hb dL_append_13 (by decide) ?_
      exact z_iret hx hb hr hlocks hP hD hK hS (if_neg hk).symm (by rw [q]) dL_append_14
    · obtain rfl : "java/lang/IllegalStateException" = E := Option.some.inj (by rw [q] at hE; exact hE)
      refine vx_catch (name := "java/lang/IllegalStateException") hown [⟨0, 9, 12, 25⟩] ⟨0, 9, 15, 13⟩ [] (by rw [hT]; rfl) (fun z hz => by
        simp only [List.mem_cons, List.not_mem_nil, or_false] at hz
        rcases hz with rfl
        · exact Or.inr ⟨by decide, "java/lang/IllegalArgumentException", hts _ qk_L_25, hC.2.2⟩) (by decide) (by decide) (hts _ qk_L_13) (va_Nw.use rfl (hJ.2.2.1 _ (by decide +kernel))) h9 hv9 hcl ?_
      refine lv_astore_n (lv' := [(3, .ref q9), (0, .ref x), (1, .int cd), (2, .ref o)]) hx hb dL_append_15 rfl hl (by decide) rfl (fun ls hl => ?_)
      refine lv_iconst (v := 2) hx hb dL_append_16 (by decide) ?_
      exact z_iret hx hb hr hlocks hP hD hK hS (if_neg hk).symm (by rw [q]) dL_append_17
set_option maxHeartbeats 4000000 in
set_option maxRecDepth 100000 in
theorem c_L_run (hfl : l.stackTraces = false) {n : Nat} (hn : n ≤ 8) (hz : z 5 = nI n) {nx kp : Nat} (hnx : nx < 6) (hkp : kp ≤ 6) (hB : hBool z) {nb : Nat} (hnb : nb ≤ 60) : zH l D (zT cI cC cM cB cJ) yL_run cL_run 3 [(0, 8, 11, 25)] ({ frames := 8, cells := 1, slots := 6, locals := 177 } : Room) [.ref x, .ref o] (bkW cI cM ad z (txW cC t sg (nI nb) r (xoW x ad h t (hsW cB h ah (nI nx) (nI kp) (hbW cI cM ah zh ((o, .inl (cJ, 1, .inr (.inl fo))) :: wr)))))) (if (kRun sg r nb) = 0 then (bkW cI cM ad ((mdX sg (feR sg (rstR r) 0 nb) n nb z 0 0 (nb + 1)).1) (txW cC t sg 0 ((mdX sg (feR sg (rstR r) 0 nb) n nb z 0 0 (nb + 1)).2.2) (xoW x ad h t (hsW cB h ah (nI ((nx + 1) % 6)) (nI (min (kp + 1) 6)) (hbW cI cM ah (zup zh nx z) ((o, .inl (cJ, 1, .inr (.inl (vp_updL fo 0 ((mdX sg (feR sg (rstR r) 0 nb) n nb z 0 0 (nb + 1)).2.1).toInt64)))) :: wr)))))) else (bkW cI cM ad z (txW cC t sg (nI nb) (feR sg (rstR r) 0 nb) (xoW x ad h t (hsW cB h ah (nI nx) (nI kp) (hbW cI cM ah zh ((o, .inl (cJ, 1, .inr (.inl fo))) :: wr))))))) (kRun sg r nb) 1 6 := by
  refine z_enterH (by decide) (Nat.le_of_ble_eq_true rfl) ?_
  intro p e s m below meth c A S hr hlocks hT hC hJ hN hA hK hP hD hS ls hl
  obtain ⟨hx, hb, hml, hown, hts⟩ := id S
  have hl : lv_has ls 3 [(0, .ref x), (1, .ref o)] := hl
  refine lv_aload_n hx hb dL_run_0 rfl (lv_at hl 1 rfl) ?_
  refine lv_iconst (v := 0) hx hb dL_run_1 (by decide) ?_
  refine lv_aload_n hx hb dL_run_2 rfl (lv_at hl 0 rfl) ?_
  refine z_callX (n := 0) (As := []) (rest := [.int 0, .ref o]) S (c_X5_run (wr := (o, .inl (cJ, 1, .inr (.inl fo))) :: wr) hfl hn hz hnx hkp hB hnb) qm_L_50 ⟨⟨qi_X5_run, qs_X5_run, qn_X5, qc_X5_run⟩, rfl, by decide, by decide, by decide +kernel⟩ ⟨Nat.le_of_ble_eq_true rfl, Nat.le_of_ble_eq_true rfl⟩ rfl rfl hJ hN hK hP hD hS hA 22 rfl rfl rfl hl.1 rfl (Nat.le_of_ble_eq_true rfl) dL_run_3 ⟨Nat.le_of_ble_eq_true rfl, Nat.le_of_ble_eq_true rfl⟩ (fun hk H locs hP hD hS => ?_) (fun hk E hE ce q9 H locs hP hD hS h9 hv9 hcl => ?_)
  · refine lv_i2l (v := ((mdX sg (feR sg (rstR r) 0 nb) n nb z 0 0 (nb + 1)).2.1).toInt64) hx hb dL_run_6 rfl ?_
    refine va_last hx hb hK hP hD hS 139 4 (n := 1) (f := fo) rfl rfl (by unfold vp_in; decide) dL_run_7 (fun H locs hP hD hS => ?_)
    have hP : va_P D vwCl (bkW cI cM ad ((mdX sg (feR sg (rstR r) 0 nb) n nb z 0 0 (nb + 1)).1) (txW cC t sg 0 ((mdX sg (feR sg (rstR r) 0 nb) n nb z 0 0 (nb + 1)).2.2) (xoW x ad h t (hsW cB h ah (nI ((nx + 1) % 6)) (nI (min (kp + 1) 6)) (hbW cI cM ah (zup zh nx z) ((o, .inl (cJ, 1, .inr (.inl (vp_updL fo 0 ((mdX sg (feR sg (rstR r) 0 nb) n nb z 0 0 (nb + 1)).2.1).toInt64)))) :: wr)))))) H := hP
    have hD : va_D A (bkW cI cM ad ((mdX sg (feR sg (rstR r) 0 nb) n nb z 0 0 (nb + 1)).1) (txW cC t sg 0 ((mdX sg (feR sg (rstR r) 0 nb) n nb z 0 0 (nb + 1)).2.2) (xoW x ad h t (hsW cB h ah (nI ((nx + 1) % 6)) (nI (min (kp + 1) 6)) (hbW cI cM ah (zup zh nx z) ((o, .inl (cJ, 1, .inr (.inl (vp_updL fo 0 ((mdX sg (feR sg (rstR r) 0 nb) n nb z 0 0 (nb + 1)).2.1).toInt64)))) :: wr)))))) := hD
    refine lv_goto (tgt := 14) hx hb dL_run_8 (by decide) ?_
    refine lv_iconst (v := 0) hx hb dL_run_14 (by decide) ?_
    exact z_iret hx hb hr hlocks hP hD hK hS (if_pos hk).symm (by rw [hk]) dL_run_15
  · rcases kv_kRun with q | q
    · exact absurd q hk
    · obtain rfl : "java/lang/IllegalArgumentException" = E := Option.some.inj (by rw [q] at hE; exact hE)
      refine vx_catch (name := "java/lang/IllegalArgumentException") hown [] ⟨0, 8, 11, 25⟩ [] (by rw [hT]; rfl) (fun z hz => absurd hz List.not_mem_nil) (by decide) (by decide) (hts _ qk_L_25) (va_Nw.use rfl (hJ.2.2.1 _ (by decide +kernel))) h9 hv9 hcl ?_
      refine lv_astore_n (lv' := [(2, .ref q9), (0, .ref x), (1, .ref o)]) hx hb dL_run_11 rfl hl (by decide) rfl (fun ls hl => ?_)
      refine lv_iconst (v := 1) hx hb dL_run_12 (by decide) ?_
      exact z_iret hx hb hr hlocks hP hD hK hS (if_neg hk).symm (by rw [q]) dL_run_13
set_option maxHeartbeats 4000000 in
set_option maxRecDepth 100000 in
theorem c_L_undo (hfl : l.stackTraces = false) {nx kp : Nat} (hnx : nx < 6) (hkp : kp ≤ 6) (hBh : ∀ i : Nat, i < 6 → hBool (zh i)) : zH l D (zT cI cC cM cB cJ) yL_undo cL_undo 3 [(0, 8, 11, 13)] ({ frames := 7, cells := 1, slots := 6, locals := 110 } : Room) [.ref x, .ref o] (bkW cI cM ad z (txW cC t sg sz r (xoW x ad h t (hsW cB h ah (nI nx) (nI kp) (hbW cI cM ah zh ((o, .inl (cJ, 1, .inr (.inl fo))) :: wr)))))) (if (kUndo kp) = 0 then (bkW cI cM ad (zh ((nx + 5) % 6)) (txW cC t sg sz r (xoW x ad h t (hsW cB h ah (nI ((nx + 5) % 6)) (nI kp - 1) (hbW cI cM ah zh ((o, .inl (cJ, 1, .inr (.inl (vp_updL fo 0 ((nI kp - 1)).toInt64)))) :: wr)))))) else (bkW cI cM ad z (txW cC t sg sz r (xoW x ad h t (hsW cB h ah (nI nx) (nI kp) (hbW cI cM ah zh ((o, .inl (cJ, 1, .inr (.inl fo))) :: wr))))))) (kUndo kp) 1 6 := by
  refine z_enterH (by decide) (Nat.le_of_ble_eq_true rfl) ?_
  intro p e s m below meth c A S hr hlocks hT hC hJ hN hA hK hP hD hS ls hl
  obtain ⟨hx, hb, hml, hown, hts⟩ := id S
  have hl : lv_has ls 3 [(0, .ref x), (1, .ref o)] := hl
  refine lv_aload_n hx hb dL_undo_0 rfl (lv_at hl 1 rfl) ?_
  refine lv_iconst (v := 0) hx hb dL_undo_1 (by decide) ?_
  refine lv_aload_n hx hb dL_undo_2 rfl (lv_at hl 0 rfl) ?_
  refine z_callX (n := 0) (As := []) (rest := [.int 0, .ref o]) S (c_X5_undo (wr := (o, .inl (cJ, 1, .inr (.inl fo))) :: wr) hfl hnx hkp hBh) qm_L_53 ⟨⟨qi_X5_undo, qs_X5_undo, qn_X5, qc_X5_undo⟩, rfl, by decide, by decide, by decide +kernel⟩ ⟨Nat.le_of_ble_eq_true rfl, Nat.le_of_ble_eq_true rfl⟩ rfl rfl hJ hN hK hP hD hS hA 22 rfl rfl rfl hl.1 rfl (Nat.le_of_ble_eq_true rfl) dL_undo_3 ⟨Nat.le_of_ble_eq_true rfl, Nat.le_of_ble_eq_true rfl⟩ (fun hk H locs hP hD hS => ?_) (fun hk E hE ce q9 H locs hP hD hS h9 hv9 hcl => ?_)
  · refine lv_i2l (v := ((nI kp - 1)).toInt64) hx hb dL_undo_6 rfl ?_
    refine va_last hx hb hK hP hD hS 139 4 (n := 1) (f := fo) rfl rfl (by unfold vp_in; decide) dL_undo_7 (fun H locs hP hD hS => ?_)
    have hP : va_P D vwCl (bkW cI cM ad (zh ((nx + 5) % 6)) (txW cC t sg sz r (xoW x ad h t (hsW cB h ah (nI ((nx + 5) % 6)) (nI kp - 1) (hbW cI cM ah zh ((o, .inl (cJ, 1, .inr (.inl (vp_updL fo 0 ((nI kp - 1)).toInt64)))) :: wr)))))) H := hP
    have hD : va_D A (bkW cI cM ad (zh ((nx + 5) % 6)) (txW cC t sg sz r (xoW x ad h t (hsW cB h ah (nI ((nx + 5) % 6)) (nI kp - 1) (hbW cI cM ah zh ((o, .inl (cJ, 1, .inr (.inl (vp_updL fo 0 ((nI kp - 1)).toInt64)))) :: wr)))))) := hD
    refine lv_goto (tgt := 14) hx hb dL_undo_8 (by decide) ?_
    refine lv_iconst (v := 0) hx hb dL_undo_14 (by decide) ?_
    exact z_iret hx hb hr hlocks hP hD hK hS (if_pos hk).symm (by rw [hk]) dL_undo_15
  · rcases kv_kUndo with q | q
    · exact absurd q hk
    · obtain rfl : "java/lang/IllegalStateException" = E := Option.some.inj (by rw [q] at hE; exact hE)
      refine vx_catch (name := "java/lang/IllegalStateException") hown [] ⟨0, 8, 11, 13⟩ [] (by rw [hT]; rfl) (fun z hz => absurd hz List.not_mem_nil) (by decide) (by decide) (hts _ qk_L_13) (va_Nw.use rfl (hJ.2.2.1 _ (by decide +kernel))) h9 hv9 hcl ?_
      refine lv_astore_n (lv' := [(2, .ref q9), (0, .ref x), (1, .ref o)]) hx hb dL_undo_11 rfl hl (by decide) rfl (fun ls hl => ?_)
      refine lv_iconst (v := 1) hx hb dL_undo_12 (by decide) ?_
      exact z_iret hx hb hr hlocks hP hD hK hS (if_neg hk).symm (by rw [q]) dL_undo_13
set_option maxHeartbeats 4000000 in
set_option maxRecDepth 100000 in
theorem c_L_member (hfl : l.stackTraces = false) {n : Nat} (hn : n ≤ 8) (hz : z 5 = nI n) {nx kp : Nat} (mb xx : Int32) : zH l D (zT cI cC cM cB cJ) yL_member cL_member 5 [(0, 10, 13, 19), (0, 10, 17, 25)] ({ frames := 7, cells := 1, slots := 6, locals := 112 } : Room) [.ref x, .int mb, .int xx, .ref o] (bkW cI cM ad z (txW cC t sg sz r (xoW x ad h t (hsW cB h ah (nI nx) (nI kp) (hbW cI cM ah zh ((o, .inl (cJ, 1, .inr (.inl fo))) :: wr)))))) (if (kMember n mb xx) = 0 then (bkW cI cM ad z (txW cC t sg sz r (xoW x ad h t (hsW cB h ah (nI nx) (nI kp) (hbW cI cM ah zh ((o, .inl (cJ, 1, .inr (.inl (vp_updL fo 0 ((prpP z (cl mb) xx)).toInt64)))) :: wr)))))) else (bkW cI cM ad z (txW cC t sg sz r (xoW x ad h t (hsW cB h ah (nI nx) (nI kp) (hbW cI cM ah zh ((o, .inl (cJ, 1, .inr (.inl fo))) :: wr))))))) (kMember n mb xx) 1 6 := by
  refine z_enterH (by decide) (Nat.le_of_ble_eq_true rfl) ?_
  intro p e s m below meth c A S hr hlocks hT hC hJ hN hA hK hP hD hS ls hl
  obtain ⟨hx, hb, hml, hown, hts⟩ := id S
  have hl : lv_has ls 5 [(0, .ref x), (1, .int mb), (2, .int xx), (3, .ref o)] := hl
  refine lv_aload_n hx hb dL_member_0 rfl (lv_at hl 3 rfl) ?_
  refine lv_iconst (v := 0) hx hb dL_member_1 (by decide) ?_
  refine lv_aload_n hx hb dL_member_2 rfl (lv_at hl 0 rfl) ?_
  refine lv_iload_n hx hb dL_member_3 rfl (lv_at hl 1 rfl) ?_
  refine lv_iload_n hx hb dL_member_4 rfl (lv_at hl 2 rfl) ?_
  refine z_callX (n := 2) (As := [.int mb, .int xx]) (rest := [.int 0, .ref o]) S (c_X5_member (wr := (o, .inl (cJ, 1, .inr (.inl fo))) :: wr) hfl hn hz mb xx) qm_L_56 ⟨⟨qi_X5_member, qs_X5_member, qn_X5, qc_X5_member⟩, rfl, by decide, by decide, by decide +kernel⟩ ⟨Nat.le_of_ble_eq_true rfl, Nat.le_of_ble_eq_true rfl⟩ rfl rfl hJ hN hK hP hD hS hA 22 rfl rfl rfl hl.1 rfl (Nat.le_of_ble_eq_true rfl) dL_member_5 ⟨Nat.le_of_ble_eq_true rfl, Nat.le_of_ble_eq_true rfl⟩ (fun hk H locs hP hD hS => ?_) (fun hk E hE ce q9 H locs hP hD hS h9 hv9 hcl => ?_)
  · refine lv_i2l (v := ((prpP z (cl mb) xx)).toInt64) hx hb dL_member_8 rfl ?_
    refine va_last hx hb hK hP hD hS 139 4 (n := 1) (f := fo) rfl rfl (by unfold vp_in; decide) dL_member_9 (fun H locs hP hD hS => ?_)
    have hP : va_P D vwCl (bkW cI cM ad z (txW cC t sg sz r (xoW x ad h t (hsW cB h ah (nI nx) (nI kp) (hbW cI cM ah zh ((o, .inl (cJ, 1, .inr (.inl (vp_updL fo 0 ((prpP z (cl mb) xx)).toInt64)))) :: wr)))))) H := hP
    have hD : va_D A (bkW cI cM ad z (txW cC t sg sz r (xoW x ad h t (hsW cB h ah (nI nx) (nI kp) (hbW cI cM ah zh ((o, .inl (cJ, 1, .inr (.inl (vp_updL fo 0 ((prpP z (cl mb) xx)).toInt64)))) :: wr)))))) := hD
    refine lv_goto (tgt := 21) hx hb dL_member_10 (by decide) ?_
    refine lv_iconst (v := 0) hx hb dL_member_21 (by decide) ?_
    exact z_iret hx hb hr hlocks hP hD hK hS (if_pos hk).symm (by rw [hk]) dL_member_22
  · rcases kv_kMember with q | q | q
    · exact absurd q hk
    · obtain rfl : "java/lang/IndexOutOfBoundsException" = E := Option.some.inj (by rw [q] at hE; exact hE)
      refine vx_catch (name := "java/lang/IndexOutOfBoundsException") hown [] ⟨0, 10, 13, 19⟩ [⟨0, 10, 17, 25⟩] (by rw [hT]; rfl) (fun z hz => absurd hz List.not_mem_nil) (by decide) (by decide) (hts _ qk_L_19) (va_Nw.use rfl (hJ.2.2.1 _ (by decide +kernel))) h9 hv9 hcl ?_
      refine lv_astore (lv' := [(4, .ref q9), (0, .ref x), (1, .int mb), (2, .int xx), (3, .ref o)]) hx hb dL_member_13 hl (by decide) rfl (fun ls hl => ?_)
      refine lv_iconst (v := 1) hx hb dL_member_15 (by decide) ?_
      exact z_iret hx hb hr hlocks hP hD hK hS (if_neg hk).symm (by rw [q]) dL_member_16
    · obtain rfl : "java/lang/IllegalArgumentException" = E := Option.some.inj (by rw [q] at hE; exact hE)
      refine vx_catch (name := "java/lang/IllegalArgumentException") hown [⟨0, 10, 13, 19⟩] ⟨0, 10, 17, 25⟩ [] (by rw [hT]; rfl) (fun z hz => by
        simp only [List.mem_cons, List.not_mem_nil, or_false] at hz
        rcases hz with rfl
        · exact Or.inr ⟨by decide, "java/lang/IndexOutOfBoundsException", hts _ qk_L_19, hC.1⟩) (by decide) (by decide) (hts _ qk_L_25) (va_Nw.use rfl (hJ.2.2.1 _ (by decide +kernel))) h9 hv9 hcl ?_
      refine lv_astore (lv' := [(4, .ref q9), (0, .ref x), (1, .int mb), (2, .int xx), (3, .ref o)]) hx hb dL_member_17 hl (by decide) rfl (fun ls hl => ?_)
      refine lv_iconst (v := 2) hx hb dL_member_19 (by decide) ?_
      exact z_iret hx hb hr hlocks hP hD hK hS (if_neg hk).symm (by rw [q]) dL_member_20
set_option maxHeartbeats 4000000 in
set_option maxRecDepth 100000 in
theorem c_L_skill (hfl : l.stackTraces = false) {n : Nat} (hn : n ≤ 8) (hz : z 5 = nI n) {nx kp : Nat} (mb sk xx : Int32) : zH l D (zT cI cC cM cB cJ) yL_skill cL_skill 6 [(0, 12, 15, 19), (0, 12, 19, 25)] ({ frames := 7, cells := 1, slots := 6, locals := 113 } : Room) [.ref x, .int mb, .int sk, .int xx, .ref o] (bkW cI cM ad z (txW cC t sg sz r (xoW x ad h t (hsW cB h ah (nI nx) (nI kp) (hbW cI cM ah zh ((o, .inl (cJ, 1, .inr (.inl fo))) :: wr)))))) (if (kSkill n mb sk xx) = 0 then (bkW cI cM ad z (txW cC t sg sz r (xoW x ad h t (hsW cB h ah (nI nx) (nI kp) (hbW cI cM ah zh ((o, .inl (cJ, 1, .inr (.inl (vp_updL fo 0 ((if xx = 0 then z (25 + 16 * cl mb + cl sk) else ripeP (z (25 + 16 * cl mb + cl sk)))).toInt64)))) :: wr)))))) else (bkW cI cM ad z (txW cC t sg sz r (xoW x ad h t (hsW cB h ah (nI nx) (nI kp) (hbW cI cM ah zh ((o, .inl (cJ, 1, .inr (.inl fo))) :: wr))))))) (kSkill n mb sk xx) 1 6 := by
  refine z_enterH (by decide) (Nat.le_of_ble_eq_true rfl) ?_
  intro p e s m below meth c A S hr hlocks hT hC hJ hN hA hK hP hD hS ls hl
  obtain ⟨hx, hb, hml, hown, hts⟩ := id S
  have hl : lv_has ls 6 [(0, .ref x), (1, .int mb), (2, .int sk), (3, .int xx), (4, .ref o)] := hl
  refine lv_aload hx hb dL_skill_0 (lv_at hl 4 rfl) ?_
  refine lv_iconst (v := 0) hx hb dL_skill_2 (by decide) ?_
  refine lv_aload_n hx hb dL_skill_3 rfl (lv_at hl 0 rfl) ?_
  refine lv_iload_n hx hb dL_skill_4 rfl (lv_at hl 1 rfl) ?_
  refine lv_iload_n hx hb dL_skill_5 rfl (lv_at hl 2 rfl) ?_
  refine lv_iload_n hx hb dL_skill_6 rfl (lv_at hl 3 rfl) ?_
  refine z_callX (n := 3) (As := [.int mb, .int sk, .int xx]) (rest := [.int 0, .ref o]) S (c_X5_skill (wr := (o, .inl (cJ, 1, .inr (.inl fo))) :: wr) hfl hn hz mb sk xx) qm_L_59 ⟨⟨qi_X5_skill, qs_X5_skill, qn_X5, qc_X5_skill⟩, rfl, by decide, by decide, by decide +kernel⟩ ⟨Nat.le_of_ble_eq_true rfl, Nat.le_of_ble_eq_true rfl⟩ rfl rfl hJ hN hK hP hD hS hA 22 rfl rfl rfl hl.1 rfl (Nat.le_of_ble_eq_true rfl) dL_skill_7 ⟨Nat.le_of_ble_eq_true rfl, Nat.le_of_ble_eq_true rfl⟩ (fun hk H locs hP hD hS => ?_) (fun hk E hE ce q9 H locs hP hD hS h9 hv9 hcl => ?_)
  · refine lv_i2l (v := ((if xx = 0 then z (25 + 16 * cl mb + cl sk) else ripeP (z (25 + 16 * cl mb + cl sk)))).toInt64) hx hb dL_skill_10 rfl ?_
    refine va_last hx hb hK hP hD hS 139 4 (n := 1) (f := fo) rfl rfl (by unfold vp_in; decide) dL_skill_11 (fun H locs hP hD hS => ?_)
    have hP : va_P D vwCl (bkW cI cM ad z (txW cC t sg sz r (xoW x ad h t (hsW cB h ah (nI nx) (nI kp) (hbW cI cM ah zh ((o, .inl (cJ, 1, .inr (.inl (vp_updL fo 0 ((if xx = 0 then z (25 + 16 * cl mb + cl sk) else ripeP (z (25 + 16 * cl mb + cl sk)))).toInt64)))) :: wr)))))) H := hP
    have hD : va_D A (bkW cI cM ad z (txW cC t sg sz r (xoW x ad h t (hsW cB h ah (nI nx) (nI kp) (hbW cI cM ah zh ((o, .inl (cJ, 1, .inr (.inl (vp_updL fo 0 ((if xx = 0 then z (25 + 16 * cl mb + cl sk) else ripeP (z (25 + 16 * cl mb + cl sk)))).toInt64)))) :: wr)))))) := hD
    refine lv_goto (tgt := 23) hx hb dL_skill_12 (by decide) ?_
    refine lv_iconst (v := 0) hx hb dL_skill_23 (by decide) ?_
    exact z_iret hx hb hr hlocks hP hD hK hS (if_pos hk).symm (by rw [hk]) dL_skill_24
  · rcases kv_kSkill with q | q | q
    · exact absurd q hk
    · obtain rfl : "java/lang/IndexOutOfBoundsException" = E := Option.some.inj (by rw [q] at hE; exact hE)
      refine vx_catch (name := "java/lang/IndexOutOfBoundsException") hown [] ⟨0, 12, 15, 19⟩ [⟨0, 12, 19, 25⟩] (by rw [hT]; rfl) (fun z hz => absurd hz List.not_mem_nil) (by decide) (by decide) (hts _ qk_L_19) (va_Nw.use rfl (hJ.2.2.1 _ (by decide +kernel))) h9 hv9 hcl ?_
      refine lv_astore (lv' := [(5, .ref q9), (0, .ref x), (1, .int mb), (2, .int sk), (3, .int xx), (4, .ref o)]) hx hb dL_skill_15 hl (by decide) rfl (fun ls hl => ?_)
      refine lv_iconst (v := 1) hx hb dL_skill_17 (by decide) ?_
      exact z_iret hx hb hr hlocks hP hD hK hS (if_neg hk).symm (by rw [q]) dL_skill_18
    · obtain rfl : "java/lang/IllegalArgumentException" = E := Option.some.inj (by rw [q] at hE; exact hE)
      refine vx_catch (name := "java/lang/IllegalArgumentException") hown [⟨0, 12, 15, 19⟩] ⟨0, 12, 19, 25⟩ [] (by rw [hT]; rfl) (fun z hz => by
        simp only [List.mem_cons, List.not_mem_nil, or_false] at hz
        rcases hz with rfl
        · exact Or.inr ⟨by decide, "java/lang/IndexOutOfBoundsException", hts _ qk_L_19, hC.1⟩) (by decide) (by decide) (hts _ qk_L_25) (va_Nw.use rfl (hJ.2.2.1 _ (by decide +kernel))) h9 hv9 hcl ?_
      refine lv_astore (lv' := [(5, .ref q9), (0, .ref x), (1, .int mb), (2, .int sk), (3, .int xx), (4, .ref o)]) hx hb dL_skill_19 hl (by decide) rfl (fun ls hl => ?_)
      refine lv_iconst (v := 2) hx hb dL_skill_21 (by decide) ?_
      exact z_iret hx hb hr hlocks hP hD hK hS (if_neg hk).symm (by rw [q]) dL_skill_22
set_option maxHeartbeats 4000000 in
set_option maxRecDepth 100000 in
theorem c_L_count (hfl : l.stackTraces = false) {n : Nat} (hn : n ≤ 8) (hz : z 5 = nI n) {nx kp : Nat} (xx : Int32) : zH l D (zT cI cC cM cB cJ) yL_count cL_count 4 [(0, 9, 12, 25)] ({ frames := 7, cells := 1, slots := 6, locals := 111 } : Room) [.ref x, .int xx, .ref o] (bkW cI cM ad z (txW cC t sg sz r (xoW x ad h t (hsW cB h ah (nI nx) (nI kp) (hbW cI cM ah zh ((o, .inl (cJ, 1, .inr (.inl fo))) :: wr)))))) (if (kCount xx) = 0 then (bkW cI cM ad z (txW cC t sg sz r (xoW x ad h t (hsW cB h ah (nI nx) (nI kp) (hbW cI cM ah zh ((o, .inl (cJ, 1, .inr (.inl (vp_updL fo 0 ((numP z n kp xx)).toInt64)))) :: wr)))))) else (bkW cI cM ad z (txW cC t sg sz r (xoW x ad h t (hsW cB h ah (nI nx) (nI kp) (hbW cI cM ah zh ((o, .inl (cJ, 1, .inr (.inl fo))) :: wr))))))) (kCount xx) 1 6 := by
  refine z_enterH (by decide) (Nat.le_of_ble_eq_true rfl) ?_
  intro p e s m below meth c A S hr hlocks hT hC hJ hN hA hK hP hD hS ls hl
  obtain ⟨hx, hb, hml, hown, hts⟩ := id S
  have hl : lv_has ls 4 [(0, .ref x), (1, .int xx), (2, .ref o)] := hl
  refine lv_aload_n hx hb dL_count_0 rfl (lv_at hl 2 rfl) ?_
  refine lv_iconst (v := 0) hx hb dL_count_1 (by decide) ?_
  refine lv_aload_n hx hb dL_count_2 rfl (lv_at hl 0 rfl) ?_
  refine lv_iload_n hx hb dL_count_3 rfl (lv_at hl 1 rfl) ?_
  refine z_callX (n := 1) (As := [.int xx]) (rest := [.int 0, .ref o]) S (c_X5_count (wr := (o, .inl (cJ, 1, .inr (.inl fo))) :: wr) hfl hn hz xx) qm_L_63 ⟨⟨qi_X5_count, qs_X5_count, qn_X5, qc_X5_count⟩, rfl, by decide, by decide, by decide +kernel⟩ ⟨Nat.le_of_ble_eq_true rfl, Nat.le_of_ble_eq_true rfl⟩ rfl rfl hJ hN hK hP hD hS hA 22 rfl rfl rfl hl.1 rfl (Nat.le_of_ble_eq_true rfl) dL_count_4 ⟨Nat.le_of_ble_eq_true rfl, Nat.le_of_ble_eq_true rfl⟩ (fun hk H locs hP hD hS => ?_) (fun hk E hE ce q9 H locs hP hD hS h9 hv9 hcl => ?_)
  · refine lv_i2l (v := ((numP z n kp xx)).toInt64) hx hb dL_count_7 rfl ?_
    refine va_last hx hb hK hP hD hS 139 4 (n := 1) (f := fo) rfl rfl (by unfold vp_in; decide) dL_count_8 (fun H locs hP hD hS => ?_)
    have hP : va_P D vwCl (bkW cI cM ad z (txW cC t sg sz r (xoW x ad h t (hsW cB h ah (nI nx) (nI kp) (hbW cI cM ah zh ((o, .inl (cJ, 1, .inr (.inl (vp_updL fo 0 ((numP z n kp xx)).toInt64)))) :: wr)))))) H := hP
    have hD : va_D A (bkW cI cM ad z (txW cC t sg sz r (xoW x ad h t (hsW cB h ah (nI nx) (nI kp) (hbW cI cM ah zh ((o, .inl (cJ, 1, .inr (.inl (vp_updL fo 0 ((numP z n kp xx)).toInt64)))) :: wr)))))) := hD
    refine lv_goto (tgt := 15) hx hb dL_count_9 (by decide) ?_
    refine lv_iconst (v := 0) hx hb dL_count_15 (by decide) ?_
    exact z_iret hx hb hr hlocks hP hD hK hS (if_pos hk).symm (by rw [hk]) dL_count_16
  · rcases kv_kCount with q | q
    · exact absurd q hk
    · obtain rfl : "java/lang/IllegalArgumentException" = E := Option.some.inj (by rw [q] at hE; exact hE)
      refine vx_catch (name := "java/lang/IllegalArgumentException") hown [] ⟨0, 9, 12, 25⟩ [] (by rw [hT]; rfl) (fun z hz => absurd hz List.not_mem_nil) (by decide) (by decide) (hts _ qk_L_25) (va_Nw.use rfl (hJ.2.2.1 _ (by decide +kernel))) h9 hv9 hcl ?_
      refine lv_astore_n (lv' := [(3, .ref q9), (0, .ref x), (1, .int xx), (2, .ref o)]) hx hb dL_count_12 rfl hl (by decide) rfl (fun ls hl => ?_)
      refine lv_iconst (v := 1) hx hb dL_count_13 (by decide) ?_
      exact z_iret hx hb hr hlocks hP hD hK hS (if_neg hk).symm (by rw [q]) dL_count_14
set_option maxHeartbeats 4000000 in
set_option maxRecDepth 100000 in
theorem c_L_setting (hfl : l.stackTraces = false) {nx kp : Nat} (st : Int32) : zH l D (zT cI cC cM cB cJ) yL_setting cL_setting 4 [(0, 9, 12, 19)] ({ frames := 7, cells := 1, slots := 6, locals := 111 } : Room) [.ref x, .int st, .ref o] (bkW cI cM ad z (txW cC t sg sz r (xoW x ad h t (hsW cB h ah (nI nx) (nI kp) (hbW cI cM ah zh ((o, .inl (cJ, 1, .inr (.inl fo))) :: wr)))))) (if (kSetting st) = 0 then (bkW cI cM ad z (txW cC t sg sz r (xoW x ad h t (hsW cB h ah (nI nx) (nI kp) (hbW cI cM ah zh ((o, .inl (cJ, 1, .inr (.inl (vp_updL fo 0 ((z (cl st))).toInt64)))) :: wr)))))) else (bkW cI cM ad z (txW cC t sg sz r (xoW x ad h t (hsW cB h ah (nI nx) (nI kp) (hbW cI cM ah zh ((o, .inl (cJ, 1, .inr (.inl fo))) :: wr))))))) (kSetting st) 1 6 := by
  refine z_enterH (by decide) (Nat.le_of_ble_eq_true rfl) ?_
  intro p e s m below meth c A S hr hlocks hT hC hJ hN hA hK hP hD hS ls hl
  obtain ⟨hx, hb, hml, hown, hts⟩ := id S
  have hl : lv_has ls 4 [(0, .ref x), (1, .int st), (2, .ref o)] := hl
  refine lv_aload_n hx hb dL_setting_0 rfl (lv_at hl 2 rfl) ?_
  refine lv_iconst (v := 0) hx hb dL_setting_1 (by decide) ?_
  refine lv_aload_n hx hb dL_setting_2 rfl (lv_at hl 0 rfl) ?_
  refine lv_iload_n hx hb dL_setting_3 rfl (lv_at hl 1 rfl) ?_
  refine z_callX (n := 1) (As := [.int st]) (rest := [.int 0, .ref o]) S (c_X5_setting (wr := (o, .inl (cJ, 1, .inr (.inl fo))) :: wr) hfl st) qm_L_66 ⟨⟨qi_X5_setting, qs_X5_setting, qn_X5, qc_X5_setting⟩, rfl, by decide, by decide, by decide +kernel⟩ ⟨Nat.le_of_ble_eq_true rfl, Nat.le_of_ble_eq_true rfl⟩ rfl rfl hJ hN hK hP hD hS hA 22 rfl rfl rfl hl.1 rfl (Nat.le_of_ble_eq_true rfl) dL_setting_4 ⟨Nat.le_of_ble_eq_true rfl, Nat.le_of_ble_eq_true rfl⟩ (fun hk H locs hP hD hS => ?_) (fun hk E hE ce q9 H locs hP hD hS h9 hv9 hcl => ?_)
  · refine lv_i2l (v := ((z (cl st))).toInt64) hx hb dL_setting_7 rfl ?_
    refine va_last hx hb hK hP hD hS 139 4 (n := 1) (f := fo) rfl rfl (by unfold vp_in; decide) dL_setting_8 (fun H locs hP hD hS => ?_)
    have hP : va_P D vwCl (bkW cI cM ad z (txW cC t sg sz r (xoW x ad h t (hsW cB h ah (nI nx) (nI kp) (hbW cI cM ah zh ((o, .inl (cJ, 1, .inr (.inl (vp_updL fo 0 ((z (cl st))).toInt64)))) :: wr)))))) H := hP
    have hD : va_D A (bkW cI cM ad z (txW cC t sg sz r (xoW x ad h t (hsW cB h ah (nI nx) (nI kp) (hbW cI cM ah zh ((o, .inl (cJ, 1, .inr (.inl (vp_updL fo 0 ((z (cl st))).toInt64)))) :: wr)))))) := hD
    refine lv_goto (tgt := 15) hx hb dL_setting_9 (by decide) ?_
    refine lv_iconst (v := 0) hx hb dL_setting_15 (by decide) ?_
    exact z_iret hx hb hr hlocks hP hD hK hS (if_pos hk).symm (by rw [hk]) dL_setting_16
  · rcases kv_kSetting with q | q
    · exact absurd q hk
    · obtain rfl : "java/lang/IndexOutOfBoundsException" = E := Option.some.inj (by rw [q] at hE; exact hE)
      refine vx_catch (name := "java/lang/IndexOutOfBoundsException") hown [] ⟨0, 9, 12, 19⟩ [] (by rw [hT]; rfl) (fun z hz => absurd hz List.not_mem_nil) (by decide) (by decide) (hts _ qk_L_19) (va_Nw.use rfl (hJ.2.2.1 _ (by decide +kernel))) h9 hv9 hcl ?_
      refine lv_astore_n (lv' := [(3, .ref q9), (0, .ref x), (1, .int st), (2, .ref o)]) hx hb dL_setting_12 rfl hl (by decide) rfl (fun ls hl => ?_)
      refine lv_iconst (v := 1) hx hb dL_setting_13 (by decide) ?_
      exact z_iret hx hb hr hlocks hP hD hK hS (if_neg hk).symm (by rw [q]) dL_setting_14
set_option maxHeartbeats 4000000 in
set_option maxRecDepth 100000 in
theorem c_L_worth (hfl : l.stackTraces = false) {n : Nat} (hn : n ≤ 8) (hz : z 5 = nI n) {nx kp : Nat} (mb sk mn : Int32) : zH l D (zT cI cC cM cB cJ) yL_worth cL_worth 6 [(0, 12, 15, 19), (0, 12, 19, 25)] ({ frames := 7, cells := 1, slots := 6, locals := 113 } : Room) [.ref x, .int mb, .int sk, .int mn, .ref o] (bkW cI cM ad z (txW cC t sg sz r (xoW x ad h t (hsW cB h ah (nI nx) (nI kp) (hbW cI cM ah zh ((o, .inl (cJ, 1, .inr (.inl fo))) :: wr)))))) (if (kWorth n mb sk mn) = 0 then (bkW cI cM ad z (txW cC t sg sz r (xoW x ad h t (hsW cB h ah (nI nx) (nI kp) (hbW cI cM ah zh ((o, .inl (cJ, 1, .inr (.inl (vp_updL fo 0 ((valP (z (25 + 16 * cl mb + cl sk)) mn)).toInt64)))) :: wr)))))) else (bkW cI cM ad z (txW cC t sg sz r (xoW x ad h t (hsW cB h ah (nI nx) (nI kp) (hbW cI cM ah zh ((o, .inl (cJ, 1, .inr (.inl fo))) :: wr))))))) (kWorth n mb sk mn) 1 6 := by
  refine z_enterH (by decide) (Nat.le_of_ble_eq_true rfl) ?_
  intro p e s m below meth c A S hr hlocks hT hC hJ hN hA hK hP hD hS ls hl
  obtain ⟨hx, hb, hml, hown, hts⟩ := id S
  have hl : lv_has ls 6 [(0, .ref x), (1, .int mb), (2, .int sk), (3, .int mn), (4, .ref o)] := hl
  refine lv_aload hx hb dL_worth_0 (lv_at hl 4 rfl) ?_
  refine lv_iconst (v := 0) hx hb dL_worth_2 (by decide) ?_
  refine lv_aload_n hx hb dL_worth_3 rfl (lv_at hl 0 rfl) ?_
  refine lv_iload_n hx hb dL_worth_4 rfl (lv_at hl 1 rfl) ?_
  refine lv_iload_n hx hb dL_worth_5 rfl (lv_at hl 2 rfl) ?_
  refine lv_iload_n hx hb dL_worth_6 rfl (lv_at hl 3 rfl) ?_
  refine z_callX (n := 3) (As := [.int mb, .int sk, .int mn]) (rest := [.int 0, .ref o]) S (c_X5_worth (wr := (o, .inl (cJ, 1, .inr (.inl fo))) :: wr) hfl hn hz mb sk mn) qm_L_69 ⟨⟨qi_X5_worth, qs_X5_worth, qn_X5, qc_X5_worth⟩, rfl, by decide, by decide, by decide +kernel⟩ ⟨Nat.le_of_ble_eq_true rfl, Nat.le_of_ble_eq_true rfl⟩ rfl rfl hJ hN hK hP hD hS hA 22 rfl rfl rfl hl.1 rfl (Nat.le_of_ble_eq_true rfl) dL_worth_7 ⟨Nat.le_of_ble_eq_true rfl, Nat.le_of_ble_eq_true rfl⟩ (fun hk H locs hP hD hS => ?_) (fun hk E hE ce q9 H locs hP hD hS h9 hv9 hcl => ?_)
  · refine lv_i2l (v := ((valP (z (25 + 16 * cl mb + cl sk)) mn)).toInt64) hx hb dL_worth_10 rfl ?_
    refine va_last hx hb hK hP hD hS 139 4 (n := 1) (f := fo) rfl rfl (by unfold vp_in; decide) dL_worth_11 (fun H locs hP hD hS => ?_)
    have hP : va_P D vwCl (bkW cI cM ad z (txW cC t sg sz r (xoW x ad h t (hsW cB h ah (nI nx) (nI kp) (hbW cI cM ah zh ((o, .inl (cJ, 1, .inr (.inl (vp_updL fo 0 ((valP (z (25 + 16 * cl mb + cl sk)) mn)).toInt64)))) :: wr)))))) H := hP
    have hD : va_D A (bkW cI cM ad z (txW cC t sg sz r (xoW x ad h t (hsW cB h ah (nI nx) (nI kp) (hbW cI cM ah zh ((o, .inl (cJ, 1, .inr (.inl (vp_updL fo 0 ((valP (z (25 + 16 * cl mb + cl sk)) mn)).toInt64)))) :: wr)))))) := hD
    refine lv_goto (tgt := 23) hx hb dL_worth_12 (by decide) ?_
    refine lv_iconst (v := 0) hx hb dL_worth_23 (by decide) ?_
    exact z_iret hx hb hr hlocks hP hD hK hS (if_pos hk).symm (by rw [hk]) dL_worth_24
  · rcases kv_kWorth with q | q | q
    · exact absurd q hk
    · obtain rfl : "java/lang/IndexOutOfBoundsException" = E := Option.some.inj (by rw [q] at hE; exact hE)
      refine vx_catch (name := "java/lang/IndexOutOfBoundsException") hown [] ⟨0, 12, 15, 19⟩ [⟨0, 12, 19, 25⟩] (by rw [hT]; rfl) (fun z hz => absurd hz List.not_mem_nil) (by decide) (by decide) (hts _ qk_L_19) (va_Nw.use rfl (hJ.2.2.1 _ (by decide +kernel))) h9 hv9 hcl ?_
      refine lv_astore (lv' := [(5, .ref q9), (0, .ref x), (1, .int mb), (2, .int sk), (3, .int mn), (4, .ref o)]) hx hb dL_worth_15 hl (by decide) rfl (fun ls hl => ?_)
      refine lv_iconst (v := 1) hx hb dL_worth_17 (by decide) ?_
      exact z_iret hx hb hr hlocks hP hD hK hS (if_neg hk).symm (by rw [q]) dL_worth_18
    · obtain rfl : "java/lang/IllegalArgumentException" = E := Option.some.inj (by rw [q] at hE; exact hE)
      refine vx_catch (name := "java/lang/IllegalArgumentException") hown [⟨0, 12, 15, 19⟩] ⟨0, 12, 19, 25⟩ [] (by rw [hT]; rfl) (fun z hz => by
        simp only [List.mem_cons, List.not_mem_nil, or_false] at hz
        rcases hz with rfl
        · exact Or.inr ⟨by decide, "java/lang/IndexOutOfBoundsException", hts _ qk_L_19, hC.1⟩) (by decide) (by decide) (hts _ qk_L_25) (va_Nw.use rfl (hJ.2.2.1 _ (by decide +kernel))) h9 hv9 hcl ?_
      refine lv_astore (lv' := [(5, .ref q9), (0, .ref x), (1, .int mb), (2, .int sk), (3, .int mn), (4, .ref o)]) hx hb dL_worth_19 hl (by decide) rfl (fun ls hl => ?_)
      refine lv_iconst (v := 2) hx hb dL_worth_21 (by decide) ?_
      exact z_iret hx hb hr hlocks hP hD hK hS (if_neg hk).symm (by rw [q]) dL_worth_22
set_option maxHeartbeats 4000000 in
set_option maxRecDepth 100000 in
theorem c_L_longest (hfl : l.stackTraces = false) {n : Nat} (hn : n ≤ 8) (hz : z 5 = nI n) {nx kp : Nat} (ga ta sk : Int32) : zH l D (zT cI cC cM cB cJ) yL_longest cL_longest 6 [(0, 12, 15, 19)] ({ frames := 7, cells := 1, slots := 6, locals := 113 } : Room) [.ref x, .int ga, .int ta, .int sk, .ref o] (bkW cI cM ad z (txW cC t sg sz r (xoW x ad h t (hsW cB h ah (nI nx) (nI kp) (hbW cI cM ah zh ((o, .inl (cJ, 1, .inr (.inl fo))) :: wr)))))) (if (kLongest n ga ta sk) = 0 then (bkW cI cM ad z (txW cC t sg sz r (xoW x ad h t (hsW cB h ah (nI nx) (nI kp) (hbW cI cM ah zh ((o, .inl (cJ, 1, .inr (.inl (vp_updL fo 0 ((lngP z (cl ga) (cl ta) (cl sk))).toInt64)))) :: wr)))))) else (bkW cI cM ad z (txW cC t sg sz r (xoW x ad h t (hsW cB h ah (nI nx) (nI kp) (hbW cI cM ah zh ((o, .inl (cJ, 1, .inr (.inl fo))) :: wr))))))) (kLongest n ga ta sk) 1 6 := by
  refine z_enterH (by decide) (Nat.le_of_ble_eq_true rfl) ?_
  intro p e s m below meth c A S hr hlocks hT hC hJ hN hA hK hP hD hS ls hl
  obtain ⟨hx, hb, hml, hown, hts⟩ := id S
  have hl : lv_has ls 6 [(0, .ref x), (1, .int ga), (2, .int ta), (3, .int sk), (4, .ref o)] := hl
  refine lv_aload hx hb dL_longest_0 (lv_at hl 4 rfl) ?_
  refine lv_iconst (v := 0) hx hb dL_longest_2 (by decide) ?_
  refine lv_aload_n hx hb dL_longest_3 rfl (lv_at hl 0 rfl) ?_
  refine lv_iload_n hx hb dL_longest_4 rfl (lv_at hl 1 rfl) ?_
  refine lv_iload_n hx hb dL_longest_5 rfl (lv_at hl 2 rfl) ?_
  refine lv_iload_n hx hb dL_longest_6 rfl (lv_at hl 3 rfl) ?_
  refine z_callX (n := 3) (As := [.int ga, .int ta, .int sk]) (rest := [.int 0, .ref o]) S (c_X5_longest (wr := (o, .inl (cJ, 1, .inr (.inl fo))) :: wr) hfl hn hz ga ta sk) qm_L_72 ⟨⟨qi_X5_longest, qs_X5_longest, qn_X5, qc_X5_longest⟩, rfl, by decide, by decide, by decide +kernel⟩ ⟨Nat.le_of_ble_eq_true rfl, Nat.le_of_ble_eq_true rfl⟩ rfl rfl hJ hN hK hP hD hS hA 22 rfl rfl rfl hl.1 rfl (Nat.le_of_ble_eq_true rfl) dL_longest_7 ⟨Nat.le_of_ble_eq_true rfl, Nat.le_of_ble_eq_true rfl⟩ (fun hk H locs hP hD hS => ?_) (fun hk E hE ce q9 H locs hP hD hS h9 hv9 hcl => ?_)
  · refine lv_i2l (v := ((lngP z (cl ga) (cl ta) (cl sk))).toInt64) hx hb dL_longest_10 rfl ?_
    refine va_last hx hb hK hP hD hS 139 4 (n := 1) (f := fo) rfl rfl (by unfold vp_in; decide) dL_longest_11 (fun H locs hP hD hS => ?_)
    have hP : va_P D vwCl (bkW cI cM ad z (txW cC t sg sz r (xoW x ad h t (hsW cB h ah (nI nx) (nI kp) (hbW cI cM ah zh ((o, .inl (cJ, 1, .inr (.inl (vp_updL fo 0 ((lngP z (cl ga) (cl ta) (cl sk))).toInt64)))) :: wr)))))) H := hP
    have hD : va_D A (bkW cI cM ad z (txW cC t sg sz r (xoW x ad h t (hsW cB h ah (nI nx) (nI kp) (hbW cI cM ah zh ((o, .inl (cJ, 1, .inr (.inl (vp_updL fo 0 ((lngP z (cl ga) (cl ta) (cl sk))).toInt64)))) :: wr)))))) := hD
    refine lv_goto (tgt := 19) hx hb dL_longest_12 (by decide) ?_
    refine lv_iconst (v := 0) hx hb dL_longest_19 (by decide) ?_
    exact z_iret hx hb hr hlocks hP hD hK hS (if_pos hk).symm (by rw [hk]) dL_longest_20
  · rcases kv_kLongest with q | q
    · exact absurd q hk
    · obtain rfl : "java/lang/IndexOutOfBoundsException" = E := Option.some.inj (by rw [q] at hE; exact hE)
      refine vx_catch (name := "java/lang/IndexOutOfBoundsException") hown [] ⟨0, 12, 15, 19⟩ [] (by rw [hT]; rfl) (fun z hz => absurd hz List.not_mem_nil) (by decide) (by decide) (hts _ qk_L_19) (va_Nw.use rfl (hJ.2.2.1 _ (by decide +kernel))) h9 hv9 hcl ?_
      refine lv_astore (lv' := [(5, .ref q9), (0, .ref x), (1, .int ga), (2, .int ta), (3, .int sk), (4, .ref o)]) hx hb dL_longest_15 hl (by decide) rfl (fun ls hl => ?_)
      refine lv_iconst (v := 1) hx hb dL_longest_17 (by decide) ?_
      exact z_iret hx hb hr hlocks hP hD hK hS (if_neg hk).symm (by rw [q]) dL_longest_18
set_option maxHeartbeats 4000000 in
set_option maxRecDepth 100000 in
theorem c_L_cheapest (hfl : l.stackTraces = false) {n : Nat} (hn : n ≤ 8) (hz : z 5 = nI n) {nx kp : Nat} (mb sk mn : Int32) : zH l D (zT cI cC cM cB cJ) yL_cheapest cL_cheapest 6 [(0, 12, 15, 19), (0, 12, 19, 25)] ({ frames := 7, cells := 1, slots := 6, locals := 159 } : Room) [.ref x, .int mb, .int sk, .int mn, .ref o] (bkW cI cM ad z (txW cC t sg sz r (xoW x ad h t (hsW cB h ah (nI nx) (nI kp) (hbW cI cM ah zh ((o, .inl (cJ, 1, .inr (.inl fo))) :: wr)))))) (if (kWorth n mb sk mn) = 0 then (bkW cI cM ad z (txW cC t sg sz r (xoW x ad h t (hsW cB h ah (nI nx) (nI kp) (hbW cI cM ah zh ((o, .inl (cJ, 1, .inr (.inl (vp_updL fo 0 ((chG z n (cl mb) (cl sk) mn n)).toInt64)))) :: wr)))))) else (bkW cI cM ad z (txW cC t sg sz r (xoW x ad h t (hsW cB h ah (nI nx) (nI kp) (hbW cI cM ah zh ((o, .inl (cJ, 1, .inr (.inl fo))) :: wr))))))) (kWorth n mb sk mn) 1 6 := by
  refine z_enterH (by decide) (Nat.le_of_ble_eq_true rfl) ?_
  intro p e s m below meth c A S hr hlocks hT hC hJ hN hA hK hP hD hS ls hl
  obtain ⟨hx, hb, hml, hown, hts⟩ := id S
  have hl : lv_has ls 6 [(0, .ref x), (1, .int mb), (2, .int sk), (3, .int mn), (4, .ref o)] := hl
  refine lv_aload hx hb dL_cheapest_0 (lv_at hl 4 rfl) ?_
  refine lv_iconst (v := 0) hx hb dL_cheapest_2 (by decide) ?_
  refine lv_aload_n hx hb dL_cheapest_3 rfl (lv_at hl 0 rfl) ?_
  refine lv_iload_n hx hb dL_cheapest_4 rfl (lv_at hl 1 rfl) ?_
  refine lv_iload_n hx hb dL_cheapest_5 rfl (lv_at hl 2 rfl) ?_
  refine lv_iload_n hx hb dL_cheapest_6 rfl (lv_at hl 3 rfl) ?_
  refine z_callX (n := 3) (As := [.int mb, .int sk, .int mn]) (rest := [.int 0, .ref o]) S (c_X5_cheapest (wr := (o, .inl (cJ, 1, .inr (.inl fo))) :: wr) hfl hn hz mb sk mn) qm_L_75 ⟨⟨qi_X5_cheapest, qs_X5_cheapest, qn_X5, qc_X5_cheapest⟩, rfl, by decide, by decide, by decide +kernel⟩ ⟨Nat.le_of_ble_eq_true rfl, Nat.le_of_ble_eq_true rfl⟩ rfl rfl hJ hN hK hP hD hS hA 22 rfl rfl rfl hl.1 rfl (Nat.le_of_ble_eq_true rfl) dL_cheapest_7 ⟨Nat.le_of_ble_eq_true rfl, Nat.le_of_ble_eq_true rfl⟩ (fun hk H locs hP hD hS => ?_) (fun hk E hE ce q9 H locs hP hD hS h9 hv9 hcl => ?_)
  · refine lv_i2l (v := ((chG z n (cl mb) (cl sk) mn n)).toInt64) hx hb dL_cheapest_10 rfl ?_
    refine va_last hx hb hK hP hD hS 139 4 (n := 1) (f := fo) rfl rfl (by unfold vp_in; decide) dL_cheapest_11 (fun H locs hP hD hS => ?_)
    have hP : va_P D vwCl (bkW cI cM ad z (txW cC t sg sz r (xoW x ad h t (hsW cB h ah (nI nx) (nI kp) (hbW cI cM ah zh ((o, .inl (cJ, 1, .inr (.inl (vp_updL fo 0 ((chG z n (cl mb) (cl sk) mn n)).toInt64)))) :: wr)))))) H := hP
    have hD : va_D A (bkW cI cM ad z (txW cC t sg sz r (xoW x ad h t (hsW cB h ah (nI nx) (nI kp) (hbW cI cM ah zh ((o, .inl (cJ, 1, .inr (.inl (vp_updL fo 0 ((chG z n (cl mb) (cl sk) mn n)).toInt64)))) :: wr)))))) := hD
    refine lv_goto (tgt := 23) hx hb dL_cheapest_12 (by decide) ?_
    refine lv_iconst (v := 0) hx hb dL_cheapest_23 (by decide) ?_
    exact z_iret hx hb hr hlocks hP hD hK hS (if_pos hk).symm (by rw [hk]) dL_cheapest_24
  · rcases kv_kWorth with q | q | q
    · exact absurd q hk
    · obtain rfl : "java/lang/IndexOutOfBoundsException" = E := Option.some.inj (by rw [q] at hE; exact hE)
      refine vx_catch (name := "java/lang/IndexOutOfBoundsException") hown [] ⟨0, 12, 15, 19⟩ [⟨0, 12, 19, 25⟩] (by rw [hT]; rfl) (fun z hz => absurd hz List.not_mem_nil) (by decide) (by decide) (hts _ qk_L_19) (va_Nw.use rfl (hJ.2.2.1 _ (by decide +kernel))) h9 hv9 hcl ?_
      refine lv_astore (lv' := [(5, .ref q9), (0, .ref x), (1, .int mb), (2, .int sk), (3, .int mn), (4, .ref o)]) hx hb dL_cheapest_15 hl (by decide) rfl (fun ls hl => ?_)
      refine lv_iconst (v := 1) hx hb dL_cheapest_17 (by decide) ?_
      exact z_iret hx hb hr hlocks hP hD hK hS (if_neg hk).symm (by rw [q]) dL_cheapest_18
    · obtain rfl : "java/lang/IllegalArgumentException" = E := Option.some.inj (by rw [q] at hE; exact hE)
      refine vx_catch (name := "java/lang/IllegalArgumentException") hown [⟨0, 12, 15, 19⟩] ⟨0, 12, 19, 25⟩ [] (by rw [hT]; rfl) (fun z hz => by
        simp only [List.mem_cons, List.not_mem_nil, or_false] at hz
        rcases hz with rfl
        · exact Or.inr ⟨by decide, "java/lang/IndexOutOfBoundsException", hts _ qk_L_19, hC.1⟩) (by decide) (by decide) (hts _ qk_L_25) (va_Nw.use rfl (hJ.2.2.1 _ (by decide +kernel))) h9 hv9 hcl ?_
      refine lv_astore (lv' := [(5, .ref q9), (0, .ref x), (1, .int mb), (2, .int sk), (3, .int mn), (4, .ref o)]) hx hb dL_cheapest_19 hl (by decide) rfl (fun ls hl => ?_)
      refine lv_iconst (v := 2) hx hb dL_cheapest_21 (by decide) ?_
      exact z_iret hx hb hr hlocks hP hD hK hS (if_neg hk).symm (by rw [q]) dL_cheapest_22
set_option maxHeartbeats 4000000 in
set_option maxRecDepth 100000 in
theorem c_L_decayIn (hfl : l.stackTraces = false) {n : Nat} (hn : n ≤ 8) (hz : z 5 = nI n) {nx kp : Nat} (mb wk : Int32) : zH l D (zT cI cC cM cB cJ) yL_decayIn cL_decayIn 5 [(0, 10, 13, 19), (0, 10, 17, 25)] ({ frames := 7, cells := 1, slots := 6, locals := 112 } : Room) [.ref x, .int mb, .int wk, .ref o] (bkW cI cM ad z (txW cC t sg sz r (xoW x ad h t (hsW cB h ah (nI nx) (nI kp) (hbW cI cM ah zh ((o, .inl (cJ, 1, .inr (.inl fo))) :: wr)))))) (if (kDecay n mb wk) = 0 then (bkW cI cM ad z (txW cC t sg sz r (xoW x ad h t (hsW cB h ah (nI nx) (nI kp) (hbW cI cM ah zh ((o, .inl (cJ, 1, .inr (.inl (vp_updL fo 0 ((fdP z (cl mb) (cl wk))).toInt64)))) :: wr)))))) else (bkW cI cM ad z (txW cC t sg sz r (xoW x ad h t (hsW cB h ah (nI nx) (nI kp) (hbW cI cM ah zh ((o, .inl (cJ, 1, .inr (.inl fo))) :: wr))))))) (kDecay n mb wk) 1 6 := by
  refine z_enterH (by decide) (Nat.le_of_ble_eq_true rfl) ?_
  intro p e s m below meth c A S hr hlocks hT hC hJ hN hA hK hP hD hS ls hl
  obtain ⟨hx, hb, hml, hown, hts⟩ := id S
  have hl : lv_has ls 5 [(0, .ref x), (1, .int mb), (2, .int wk), (3, .ref o)] := hl
  refine lv_aload_n hx hb dL_decayIn_0 rfl (lv_at hl 3 rfl) ?_
  refine lv_iconst (v := 0) hx hb dL_decayIn_1 (by decide) ?_
  refine lv_aload_n hx hb dL_decayIn_2 rfl (lv_at hl 0 rfl) ?_
  refine lv_iload_n hx hb dL_decayIn_3 rfl (lv_at hl 1 rfl) ?_
  refine lv_iload_n hx hb dL_decayIn_4 rfl (lv_at hl 2 rfl) ?_
  refine z_callX (n := 2) (As := [.int mb, .int wk]) (rest := [.int 0, .ref o]) S (c_X5_decayIn (wr := (o, .inl (cJ, 1, .inr (.inl fo))) :: wr) hfl hn hz mb wk) qm_L_78 ⟨⟨qi_X5_decayIn, qs_X5_decayIn, qn_X5, qc_X5_decayIn⟩, rfl, by decide, by decide, by decide +kernel⟩ ⟨Nat.le_of_ble_eq_true rfl, Nat.le_of_ble_eq_true rfl⟩ rfl rfl hJ hN hK hP hD hS hA 22 rfl rfl rfl hl.1 rfl (Nat.le_of_ble_eq_true rfl) dL_decayIn_5 ⟨Nat.le_of_ble_eq_true rfl, Nat.le_of_ble_eq_true rfl⟩ (fun hk H locs hP hD hS => ?_) (fun hk E hE ce q9 H locs hP hD hS h9 hv9 hcl => ?_)
  · refine lv_i2l (v := ((fdP z (cl mb) (cl wk))).toInt64) hx hb dL_decayIn_8 rfl ?_
    refine va_last hx hb hK hP hD hS 139 4 (n := 1) (f := fo) rfl rfl (by unfold vp_in; decide) dL_decayIn_9 (fun H locs hP hD hS => ?_)
    have hP : va_P D vwCl (bkW cI cM ad z (txW cC t sg sz r (xoW x ad h t (hsW cB h ah (nI nx) (nI kp) (hbW cI cM ah zh ((o, .inl (cJ, 1, .inr (.inl (vp_updL fo 0 ((fdP z (cl mb) (cl wk))).toInt64)))) :: wr)))))) H := hP
    have hD : va_D A (bkW cI cM ad z (txW cC t sg sz r (xoW x ad h t (hsW cB h ah (nI nx) (nI kp) (hbW cI cM ah zh ((o, .inl (cJ, 1, .inr (.inl (vp_updL fo 0 ((fdP z (cl mb) (cl wk))).toInt64)))) :: wr)))))) := hD
    refine lv_goto (tgt := 21) hx hb dL_decayIn_10 (by decide) ?_
    refine lv_iconst (v := 0) hx hb dL_decayIn_21 (by decide) ?_
    exact z_iret hx hb hr hlocks hP hD hK hS (if_pos hk).symm (by rw [hk]) dL_decayIn_22
  · rcases kv_kDecay with q | q | q
    · exact absurd q hk
    · obtain rfl : "java/lang/IndexOutOfBoundsException" = E := Option.some.inj (by rw [q] at hE; exact hE)
      refine vx_catch (name := "java/lang/IndexOutOfBoundsException") hown [] ⟨0, 10, 13, 19⟩ [⟨0, 10, 17, 25⟩] (by rw [hT]; rfl) (fun z hz => absurd hz List.not_mem_nil) (by decide) (by decide) (hts _ qk_L_19) (va_Nw.use rfl (hJ.2.2.1 _ (by decide +kernel))) h9 hv9 hcl ?_
      refine lv_astore (lv' := [(4, .ref q9), (0, .ref x), (1, .int mb), (2, .int wk), (3, .ref o)]) hx hb dL_decayIn_13 hl (by decide) rfl (fun ls hl => ?_)
      refine lv_iconst (v := 1) hx hb dL_decayIn_15 (by decide) ?_
      exact z_iret hx hb hr hlocks hP hD hK hS (if_neg hk).symm (by rw [q]) dL_decayIn_16
    · obtain rfl : "java/lang/IllegalArgumentException" = E := Option.some.inj (by rw [q] at hE; exact hE)
      refine vx_catch (name := "java/lang/IllegalArgumentException") hown [⟨0, 10, 13, 19⟩] ⟨0, 10, 17, 25⟩ [] (by rw [hT]; rfl) (fun z hz => by
        simp only [List.mem_cons, List.not_mem_nil, or_false] at hz
        rcases hz with rfl
        · exact Or.inr ⟨by decide, "java/lang/IndexOutOfBoundsException", hts _ qk_L_19, hC.1⟩) (by decide) (by decide) (hts _ qk_L_25) (va_Nw.use rfl (hJ.2.2.1 _ (by decide +kernel))) h9 hv9 hcl ?_
      refine lv_astore (lv' := [(4, .ref q9), (0, .ref x), (1, .int mb), (2, .int wk), (3, .ref o)]) hx hb dL_decayIn_17 hl (by decide) rfl (fun ls hl => ?_)
      refine lv_iconst (v := 2) hx hb dL_decayIn_19 (by decide) ?_
      exact z_iret hx hb hr hlocks hP hD hK hS (if_neg hk).symm (by rw [q]) dL_decayIn_20
set_option maxHeartbeats 4000000 in
set_option maxRecDepth 100000 in
theorem c_L_ripest (hfl : l.stackTraces = false) {n : Nat} (hn : n ≤ 8) (hz : z 5 = nI n) {nx kp : Nat} (sk : Int32) : zH l D (zT cI cC cM cB cJ) yL_ripest cL_ripest 4 [(0, 9, 12, 19)] ({ frames := 7, cells := 1, slots := 6, locals := 111 } : Room) [.ref x, .int sk, .ref o] (bkW cI cM ad z (txW cC t sg sz r (xoW x ad h t (hsW cB h ah (nI nx) (nI kp) (hbW cI cM ah zh ((o, .inl (cJ, 1, .inr (.inl fo))) :: wr)))))) (if (kRipest sk) = 0 then (bkW cI cM ad z (txW cC t sg sz r (xoW x ad h t (hsW cB h ah (nI nx) (nI kp) (hbW cI cM ah zh ((o, .inl (cJ, 1, .inr (.inl (vp_updL fo 0 ((mpP z (cl sk) n)).toInt64)))) :: wr)))))) else (bkW cI cM ad z (txW cC t sg sz r (xoW x ad h t (hsW cB h ah (nI nx) (nI kp) (hbW cI cM ah zh ((o, .inl (cJ, 1, .inr (.inl fo))) :: wr))))))) (kRipest sk) 1 6 := by
  refine z_enterH (by decide) (Nat.le_of_ble_eq_true rfl) ?_
  intro p e s m below meth c A S hr hlocks hT hC hJ hN hA hK hP hD hS ls hl
  obtain ⟨hx, hb, hml, hown, hts⟩ := id S
  have hl : lv_has ls 4 [(0, .ref x), (1, .int sk), (2, .ref o)] := hl
  refine lv_aload_n hx hb dL_ripest_0 rfl (lv_at hl 2 rfl) ?_
  refine lv_iconst (v := 0) hx hb dL_ripest_1 (by decide) ?_
  refine lv_aload_n hx hb dL_ripest_2 rfl (lv_at hl 0 rfl) ?_
  refine lv_iload_n hx hb dL_ripest_3 rfl (lv_at hl 1 rfl) ?_
  refine z_callX (n := 1) (As := [.int sk]) (rest := [.int 0, .ref o]) S (c_X5_ripest (wr := (o, .inl (cJ, 1, .inr (.inl fo))) :: wr) hfl hn hz sk) qm_L_81 ⟨⟨qi_X5_ripest, qs_X5_ripest, qn_X5, qc_X5_ripest⟩, rfl, by decide, by decide, by decide +kernel⟩ ⟨Nat.le_of_ble_eq_true rfl, Nat.le_of_ble_eq_true rfl⟩ rfl rfl hJ hN hK hP hD hS hA 22 rfl rfl rfl hl.1 rfl (Nat.le_of_ble_eq_true rfl) dL_ripest_4 ⟨Nat.le_of_ble_eq_true rfl, Nat.le_of_ble_eq_true rfl⟩ (fun hk H locs hP hD hS => ?_) (fun hk E hE ce q9 H locs hP hD hS h9 hv9 hcl => ?_)
  · refine lv_i2l (v := ((mpP z (cl sk) n)).toInt64) hx hb dL_ripest_7 rfl ?_
    refine va_last hx hb hK hP hD hS 139 4 (n := 1) (f := fo) rfl rfl (by unfold vp_in; decide) dL_ripest_8 (fun H locs hP hD hS => ?_)
    have hP : va_P D vwCl (bkW cI cM ad z (txW cC t sg sz r (xoW x ad h t (hsW cB h ah (nI nx) (nI kp) (hbW cI cM ah zh ((o, .inl (cJ, 1, .inr (.inl (vp_updL fo 0 ((mpP z (cl sk) n)).toInt64)))) :: wr)))))) H := hP
    have hD : va_D A (bkW cI cM ad z (txW cC t sg sz r (xoW x ad h t (hsW cB h ah (nI nx) (nI kp) (hbW cI cM ah zh ((o, .inl (cJ, 1, .inr (.inl (vp_updL fo 0 ((mpP z (cl sk) n)).toInt64)))) :: wr)))))) := hD
    refine lv_goto (tgt := 15) hx hb dL_ripest_9 (by decide) ?_
    refine lv_iconst (v := 0) hx hb dL_ripest_15 (by decide) ?_
    exact z_iret hx hb hr hlocks hP hD hK hS (if_pos hk).symm (by rw [hk]) dL_ripest_16
  · rcases kv_kRipest with q | q
    · exact absurd q hk
    · obtain rfl : "java/lang/IndexOutOfBoundsException" = E := Option.some.inj (by rw [q] at hE; exact hE)
      refine vx_catch (name := "java/lang/IndexOutOfBoundsException") hown [] ⟨0, 9, 12, 19⟩ [] (by rw [hT]; rfl) (fun z hz => absurd hz List.not_mem_nil) (by decide) (by decide) (hts _ qk_L_19) (va_Nw.use rfl (hJ.2.2.1 _ (by decide +kernel))) h9 hv9 hcl ?_
      refine lv_astore_n (lv' := [(3, .ref q9), (0, .ref x), (1, .int sk), (2, .ref o)]) hx hb dL_ripest_12 rfl hl (by decide) rfl (fun ls hl => ?_)
      refine lv_iconst (v := 1) hx hb dL_ripest_13 (by decide) ?_
      exact z_iret hx hb hr hlocks hP hD hK hS (if_neg hk).symm (by rw [q]) dL_ripest_14
end XB
