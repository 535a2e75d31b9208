/-! What is held against the class after each act. -/
section XL
variable {l : Launch} {D : va_G} {cI cC cM cB cJ : ClassId} {ad t h : Nat → Nat} {ah : Nat → Nat → Nat} {zh : Nat → Nat → Int32} {x na ma : Nat} {sg r : Nat → Int32} {sz : Int32} {z zl : Nat → Int32} {wr : va_W}
set_option maxHeartbeats 4000000 in
set_option maxRecDepth 100000 in
theorem c_L_agree {C n nx kp : Nat} (hR : rOK C n z) (hn2 : 1 ≤ n) (hn : n ≤ 4) (hsum : z 6 + sumF z 1 n = z 7) (yv : Int32) : zM l D (zT cI cC cM cB cJ) yL_agree cL_agree 9 (some .boolean) ({ frames := 7, cells := 0, slots := 0, locals := 159 } : Room) [.ref x, .int yv, .ref na, .ref ma] (xw0 cI cC cM cB ad z t sg sz r x h ah (nI nx) (nI kp) zh (lwS cI na ma z kp wr)) (xw0 cI cC cM cB ad z t sg sz r x h ah (nI nx) (nI kp) zh (lwS cI na ma z kp wr)) (some (.int 1)) 0 0 := by
  have hz : z 5 = nI n := hR.2.1
  have hB : hBool z := hR.2.2.1
  refine z_enter (by decide) (Nat.le_of_ble_eq_true rfl) ?_
  intro p e s m below meth c A S hr hlocks hnm hN hA hK hP hD hS ls hl
  obtain ⟨hx, hb, hml, hown, hts⟩ := id S
  have hl : lv_has ls 9 [(0, .ref x), (1, .int yv), (2, .ref na), (3, .ref ma)] := hl
  have hP : va_P D vwCl (xw0 cI cC cM cB ad z t sg sz r x h ah (nI nx) (nI kp) zh (lwS cI na ma z kp wr)) s.heap := hP
  have hD : va_D A (xw0 cI cC cM cB ad z t sg sz r x h ah (nI nx) (nI kp) zh (lwS cI na ma z kp wr)) := hD
  refine lv_aload_n hx hb dL_agree_0 rfl (lv_at hl 2 rfl) ?_
  refine lv_iconst (v := 1) hx hb dL_agree_1 (by decide) ?_
  refine va_iald hx hb hK hP (139 + (0)) 0 ((xw_r).trans (lw_0)) rfl (vp_in_nI (show 1 < 15 by decide) (by omega)) dL_agree_2 ?_
  refine z_top (v2 := .int (z 6)) (congrArg Value.int ((nf_1 rfl).trans (rfl))) ?_
  refine lv_istore (lv' := [(4, .int (z 6)), (0, .ref x), (1, .int yv), (2, .ref na), (3, .ref ma)]) hx hb dL_agree_3 hl (by decide) rfl (fun ls hl => ?_)
  refine lv_iconst (v := 0) hx hb dL_agree_5 (by decide) ?_
  refine lv_istore (lv' := [(5, .int 0), (4, .int (z 6)), (0, .ref x), (1, .int yv), (2, .ref na), (3, .ref ma)]) hx hb dL_agree_6 hl (by decide) rfl (fun ls hl => ?_)
  have K8 : ∀ (n8 i : Nat), i + n8 = n → ∀ (H : Heap) (locs : List Loc), va_P D vwCl (xw0 cI cC cM cB ad z t sg sz r x h ah (nI nx) (nI kp) zh (lwS cI na ma z kp wr)) H → va_D A (xw0 cI cC cM cB ad z t sg sz r x h ah (nI nx) (nI kp) zh (lwS cI na ma z kp wr)) → va_S A s.heap H locs → ∀ ls : Array Slot, lv_has ls 9 [(0, .ref x), (1, .int yv), (2, .ref na), (3, .ref ma), (4, .int (z 6 + sumF z 1 i)), (5, .int (nI i))] → W p l e ({ frames := 7, cells := 0, slots := 0, locals := 159 } : Room) s m ([.ref x, .int yv, .ref na, .ref ma] : List Value).toArray below meth c H locs 0 0 (MQ below (zQ D (zT cI cC cM cB cJ) (xw0 cI cC cM cB ad z t sg sz r x h ah (nI nx) (nI kp) zh (lwS cI na ma z kp wr)) (some (.int 1)) A) ([.ref x, .int yv, .ref na, .ref ma] : List Value).toArray s 0 0 A) (F0 m 8 ls []) := by
    intro n8
    induction n8 with
    | zero =>
      intro i h_i H locs hP hD hS ls hl
      have ei : n = i := by omega
      subst ei
      refine lv_iload hx hb dL_agree_8 (lv_at hl 5 rfl) ?_
      refine lv_aload_n hx hb dL_agree_10 rfl (lv_at hl 2 rfl) ?_
      refine lv_iconst (v := 0) hx hb dL_agree_11 (by decide) ?_
      refine va_iald hx hb hK hP (139 + (0)) 0 ((xw_r).trans (lw_0)) rfl (vp_in_nI (show 0 < 15 by decide) (by omega)) dL_agree_12 ?_
      refine z_top (v2 := .int (nI n)) (congrArg Value.int ((nf_0 rfl).trans (hz))) ?_
      refine lv_icmp_ge (tgt := 117) hx hb dL_agree_13 (by decide) (fun c1 => ?_) (fun c1 => absurd (nI_le (a := n) (b := n) (by omega) (by omega)) c1)
      have c1 := z_nlt c1
      refine lv_iload_n hx hb dL_agree_117 rfl (lv_at hl 1 rfl) ?_
      refine lv_aload_n hx hb dL_agree_118 rfl (lv_at hl 2 rfl) ?_
      refine lv_iconst (v := 0) hx hb dL_agree_119 (by decide) ?_
      refine va_iald hx hb hK hP (139 + (0)) 0 ((xw_r).trans (lw_0)) rfl (vp_in_nI (show 0 < 15 by decide) (by omega)) dL_agree_120 ?_
      refine z_top (v2 := .int (nI n)) (congrArg Value.int ((nf_0 rfl).trans (hz))) ?_
      refine z_callS1 (rest := []) S (c_L_at yv (nI n) (nI_n0 (show 0 < n by omega) (by omega))) qm_L_26 t_L_at ⟨Nat.le_of_ble_eq_true rfl, Nat.le_of_ble_eq_true rfl⟩ rfl rfl hN hK hP hD hS hA rfl hl.1 rfl (Nat.le_of_ble_eq_true rfl) dL_agree_121 ⟨Nat.le_of_ble_eq_true rfl, Nat.le_of_ble_eq_true rfl⟩ (fun H locs hP hD hS => ?_)
      obtain ⟨tk, h_tk, e_tk⟩ := at_nat (x := yv) (N := n) (by omega) (by omega)
      refine z_top (v2 := .int (nI tk)) (congrArg Value.int e_tk) ?_
      refine lv_istore (lv' := [(5, .int (nI tk)), (0, .ref x), (1, .int yv), (2, .ref na), (3, .ref ma), (4, .int (z 6 + sumF z 1 n))]) hx hb dL_agree_124 hl (by decide) rfl (fun ls hl => ?_)
      refine lv_iconst (v := (-1)) hx hb dL_agree_126 (by decide) ?_
      refine lv_istore (lv' := [(6, .int (-1)), (5, .int (nI tk)), (0, .ref x), (1, .int yv), (2, .ref na), (3, .ref ma), (4, .int (z 6 + sumF z 1 n))]) hx hb dL_agree_127 hl (by decide) rfl (fun ls hl => ?_)
      refine lv_aload_n hx hb dL_agree_129 rfl (lv_at hl 4 rfl) ?_
      refine lv_iconst (v := 0) hx hb dL_agree_130 (by decide) ?_
      refine va_iald hx hb hK hP (139 + (0)) 0 ((xw_r).trans (lw_0)) rfl (vp_in_nI (show 0 < 15 by decide) (by omega)) dL_agree_131 ?_
      refine z_top (v2 := .int (nI n)) (congrArg Value.int ((nf_0 rfl).trans (hz))) ?_
      refine lv_iconst (v := 1) hx hb dL_agree_132 (by decide) ?_
      refine lv_isub hx hb dL_agree_133  ?_
      refine lv_istore (lv' := [(7, .int ((nI n) - 1)), (6, .int (-1)), (5, .int (nI tk)), (0, .ref x), (1, .int yv), (2, .ref na), (3, .ref ma), (4, .int (z 6 + sumF z 1 n))]) hx hb dL_agree_134 hl (by decide) rfl (fun ls hl => ?_)
      have K136 : ∀ (n136 i : Nat), i + n136 = n → ∀ (H : Heap) (locs : List Loc), va_P D vwCl (xw0 cI cC cM cB ad z t sg sz r x h ah (nI nx) (nI kp) zh (lwS cI na ma z kp wr)) H → va_D A (xw0 cI cC cM cB ad z t sg sz r x h ah (nI nx) (nI kp) zh (lwS cI na ma z kp wr)) → va_S A s.heap H locs → ∀ ls : Array Slot, lv_has ls 9 [(0, .ref x), (1, .int yv), (2, .ref na), (3, .ref ma), (4, .int (z 6 + sumF z 1 n)), (5, .int (nI tk)), (6, .int (chD z n tk 1 60 i)), (7, .int (nI (n - i) - 1))] → W p l e ({ frames := 7, cells := 0, slots := 0, locals := 159 } : Room) s m ([.ref x, .int yv, .ref na, .ref ma] : List Value).toArray below meth c H locs 0 0 (MQ below (zQ D (zT cI cC cM cB cJ) (xw0 cI cC cM cB ad z t sg sz r x h ah (nI nx) (nI kp) zh (lwS cI na ma z kp wr)) (some (.int 1)) A) ([.ref x, .int yv, .ref na, .ref ma] : List Value).toArray s 0 0 A) (F0 m 136 ls []) := by
        intro n136
        induction n136 with
        | zero =>
          intro i h_i H locs hP hD hS ls hl
          have ei : n = i := by omega
          subst ei
          refine lv_iload hx hb dL_agree_136 (lv_at hl 7 rfl) ?_
          refine lv_if_lt (tgt := 227) hx hb dL_agree_138 (by decide) (fun c2 => ?_) (fun c2 => absurd ((show nI (n - n) - 1 < 0 by rw [Nat.sub_self]; decide)) c2)
          refine lv_aload_n hx hb dL_agree_227 rfl (lv_at hl 0 rfl) ?_
          refine lv_iload hx hb dL_agree_228 (lv_at hl 5 rfl) ?_
          refine lv_iconst (v := 1) hx hb dL_agree_230 (by decide) ?_
          refine lv_bipush (v := 60) hx hb dL_agree_231 (by decide) ?_
          refine z_callV1 (rest := []) S (c_X5_cheapest_m (n := n) (by omega) hz (j := tk) (k := 1) (by omega) (by decide) 60 (by decide)) qm_L_82 v_X5_cheapest ⟨Nat.le_of_ble_eq_true rfl, Nat.le_of_ble_eq_true rfl⟩ rfl rfl hN hK hP hD hS hA (22) (xw_x) rfl rfl hl.1 rfl (Nat.le_of_ble_eq_true rfl) dL_agree_233 ⟨Nat.le_of_ble_eq_true rfl, Nat.le_of_ble_eq_true rfl⟩ (fun H locs hP hD hS => ?_)
          refine lv_iload hx hb dL_agree_236 (lv_at hl 6 rfl) ?_
          refine lv_icmp_eq (tgt := 243) hx hb dL_agree_238 (by decide) (fun c3 => ?_) (fun c3 => absurd (ch_eqD hR (by omega) (by decide) (by unfold bt; decide)) c3)
          refine lv_iload hx hb dL_agree_243 (lv_at hl 4 rfl) ?_
          refine lv_aload_n hx hb dL_agree_245 rfl (lv_at hl 2 rfl) ?_
          refine lv_iconst (v := 2) hx hb dL_agree_246 (by decide) ?_
          refine va_iald hx hb hK hP (139 + (0)) 0 ((xw_r).trans (lw_0)) rfl (vp_in_nI (show 2 < 15 by decide) (by omega)) dL_agree_247 ?_
          refine z_top (v2 := .int (z 7)) (congrArg Value.int ((nf_2 rfl).trans (rfl))) ?_
          refine lv_icmp_ne (tgt := 393) hx hb dL_agree_248 (by decide) (fun c4 => absurd c4 (not_not_intro hsum)) (fun c4 => ?_)
          refine lv_aload_n hx hb dL_agree_251 rfl (lv_at hl 0 rfl) ?_
          refine lv_iconst (v := 0) hx hb dL_agree_252 (by decide) ?_
          refine z_callV1 (rest := []) S (c_X5_count_m (n := n) (by omega) hz 0 (by decide)) qm_L_85 v_X5_count ⟨Nat.le_of_ble_eq_true rfl, Nat.le_of_ble_eq_true rfl⟩ rfl rfl hN hK hP hD hS hA (22) (xw_x) rfl rfl hl.1 rfl (Nat.le_of_ble_eq_true rfl) dL_agree_253 ⟨Nat.le_of_ble_eq_true rfl, Nat.le_of_ble_eq_true rfl⟩ (fun H locs hP hD hS => ?_)
          refine lv_aload_n hx hb dL_agree_256 rfl (lv_at hl 2 rfl) ?_
          refine lv_iconst (v := 0) hx hb dL_agree_257 (by decide) ?_
          refine va_iald hx hb hK hP (139 + (0)) 0 ((xw_r).trans (lw_0)) rfl (vp_in_nI (show 0 < 15 by decide) (by omega)) dL_agree_258 ?_
          refine z_top (v2 := .int (nI n)) (congrArg Value.int ((nf_0 rfl).trans (hz))) ?_
          refine lv_icmp_ne (tgt := 393) hx hb dL_agree_259 (by decide) (fun c5 => absurd c5 (not_not_intro (num_0))) (fun c5 => ?_)
          refine lv_aload_n hx hb dL_agree_262 rfl (lv_at hl 0 rfl) ?_
          refine lv_iconst (v := 1) hx hb dL_agree_263 (by decide) ?_
          refine z_callV1 (rest := []) S (c_X5_count_m (n := n) (by omega) hz 1 (by decide)) qm_L_85 v_X5_count ⟨Nat.le_of_ble_eq_true rfl, Nat.le_of_ble_eq_true rfl⟩ rfl rfl hN hK hP hD hS hA (22) (xw_x) rfl rfl hl.1 rfl (Nat.le_of_ble_eq_true rfl) dL_agree_264 ⟨Nat.le_of_ble_eq_true rfl, Nat.le_of_ble_eq_true rfl⟩ (fun H locs hP hD hS => ?_)
          refine lv_aload_n hx hb dL_agree_267 rfl (lv_at hl 2 rfl) ?_
          refine lv_aload_n hx hb dL_agree_268 rfl (lv_at hl 3 rfl) ?_
          refine z_callS1 (rest := [.int (numP z n kp 1)]) S (c_L_there (n := n) (by omega) (hz)) qm_L_8 t_L_there ⟨Nat.le_of_ble_eq_true rfl, Nat.le_of_ble_eq_true rfl⟩ rfl rfl hN hK hP hD hS hA rfl hl.1 rfl (Nat.le_of_ble_eq_true rfl) dL_agree_269 ⟨Nat.le_of_ble_eq_true rfl, Nat.le_of_ble_eq_true rfl⟩ (fun H locs hP hD hS => ?_)
          refine lv_icmp_ne (tgt := 393) hx hb dL_agree_272 (by decide) (fun c6 => absurd c6 (not_not_intro (num_1.trans (there_eq hB n (by omega)).symm))) (fun c6 => ?_)
          refine lv_aload_n hx hb dL_agree_275 rfl (lv_at hl 0 rfl) ?_
          refine lv_iconst (v := 2) hx hb dL_agree_276 (by decide) ?_
          refine z_callV1 (rest := []) S (c_X5_count_m (n := n) (by omega) hz 2 (by decide)) qm_L_85 v_X5_count ⟨Nat.le_of_ble_eq_true rfl, Nat.le_of_ble_eq_true rfl⟩ rfl rfl hN hK hP hD hS hA (22) (xw_x) rfl rfl hl.1 rfl (Nat.le_of_ble_eq_true rfl) dL_agree_277 ⟨Nat.le_of_ble_eq_true rfl, Nat.le_of_ble_eq_true rfl⟩ (fun H locs hP hD hS => ?_)
          refine lv_aload_n hx hb dL_agree_280 rfl (lv_at hl 2 rfl) ?_
          refine lv_iconst (v := 1) hx hb dL_agree_281 (by decide) ?_
          refine va_iald hx hb hK hP (139 + (0)) 0 ((xw_r).trans (lw_0)) rfl (vp_in_nI (show 1 < 15 by decide) (by omega)) dL_agree_282 ?_
          refine z_top (v2 := .int (z 6)) (congrArg Value.int ((nf_1 rfl).trans (rfl))) ?_
          refine lv_icmp_ne (tgt := 393) hx hb dL_agree_283 (by decide) (fun c7 => absurd c7 (not_not_intro (num_2))) (fun c7 => ?_)
          refine lv_aload_n hx hb dL_agree_286 rfl (lv_at hl 0 rfl) ?_
          refine lv_iconst (v := 3) hx hb dL_agree_287 (by decide) ?_
          refine z_callV1 (rest := []) S (c_X5_count_m (n := n) (by omega) hz 3 (by decide)) qm_L_85 v_X5_count ⟨Nat.le_of_ble_eq_true rfl, Nat.le_of_ble_eq_true rfl⟩ rfl rfl hN hK hP hD hS hA (22) (xw_x) rfl rfl hl.1 rfl (Nat.le_of_ble_eq_true rfl) dL_agree_288 ⟨Nat.le_of_ble_eq_true rfl, Nat.le_of_ble_eq_true rfl⟩ (fun H locs hP hD hS => ?_)
          refine lv_aload_n hx hb dL_agree_291 rfl (lv_at hl 2 rfl) ?_
          refine lv_iconst (v := 2) hx hb dL_agree_292 (by decide) ?_
          refine va_iald hx hb hK hP (139 + (0)) 0 ((xw_r).trans (lw_0)) rfl (vp_in_nI (show 2 < 15 by decide) (by omega)) dL_agree_293 ?_
          refine z_top (v2 := .int (z 7)) (congrArg Value.int ((nf_2 rfl).trans (rfl))) ?_
          refine lv_icmp_ne (tgt := 393) hx hb dL_agree_294 (by decide) (fun c8 => absurd c8 (not_not_intro (num_3))) (fun c8 => ?_)
          refine lv_aload_n hx hb dL_agree_297 rfl (lv_at hl 0 rfl) ?_
          refine lv_iconst (v := 4) hx hb dL_agree_298 (by decide) ?_
          refine z_callV1 (rest := []) S (c_X5_count_m (n := n) (by omega) hz 4 (by decide)) qm_L_85 v_X5_count ⟨Nat.le_of_ble_eq_true rfl, Nat.le_of_ble_eq_true rfl⟩ rfl rfl hN hK hP hD hS hA (22) (xw_x) rfl rfl hl.1 rfl (Nat.le_of_ble_eq_true rfl) dL_agree_299 ⟨Nat.le_of_ble_eq_true rfl, Nat.le_of_ble_eq_true rfl⟩ (fun H locs hP hD hS => ?_)
          refine lv_aload_n hx hb dL_agree_302 rfl (lv_at hl 2 rfl) ?_
          refine lv_iconst (v := 3) hx hb dL_agree_303 (by decide) ?_
          refine va_iald hx hb hK hP (139 + (0)) 0 ((xw_r).trans (lw_0)) rfl (vp_in_nI (show 3 < 15 by decide) (by omega)) dL_agree_304 ?_
          refine z_top (v2 := .int (z 8)) (congrArg Value.int ((nf_3 rfl).trans (rfl))) ?_
          refine lv_icmp_ne (tgt := 393) hx hb dL_agree_305 (by decide) (fun c9 => absurd c9 (not_not_intro (num_4))) (fun c9 => ?_)
          refine lv_aload_n hx hb dL_agree_308 rfl (lv_at hl 0 rfl) ?_
          refine lv_iconst (v := 5) hx hb dL_agree_309 (by decide) ?_
          refine z_callV1 (rest := []) S (c_X5_count_m (n := n) (by omega) hz 5 (by decide)) qm_L_85 v_X5_count ⟨Nat.le_of_ble_eq_true rfl, Nat.le_of_ble_eq_true rfl⟩ rfl rfl hN hK hP hD hS hA (22) (xw_x) rfl rfl hl.1 rfl (Nat.le_of_ble_eq_true rfl) dL_agree_310 ⟨Nat.le_of_ble_eq_true rfl, Nat.le_of_ble_eq_true rfl⟩ (fun H locs hP hD hS => ?_)
          refine lv_aload_n hx hb dL_agree_313 rfl (lv_at hl 2 rfl) ?_
          refine lv_iconst (v := 4) hx hb dL_agree_314 (by decide) ?_
          refine va_iald hx hb hK hP (139 + (0)) 0 ((xw_r).trans (lw_0)) rfl (vp_in_nI (show 4 < 15 by decide) (by omega)) dL_agree_315 ?_
          refine z_top (v2 := .int (z 9)) (congrArg Value.int ((nf_4 rfl).trans (rfl))) ?_
          refine lv_icmp_ne (tgt := 393) hx hb dL_agree_316 (by decide) (fun c10 => absurd c10 (not_not_intro (num_5))) (fun c10 => ?_)
          refine lv_aload_n hx hb dL_agree_319 rfl (lv_at hl 0 rfl) ?_
          refine lv_bipush (v := 9) hx hb dL_agree_320 (by decide) ?_
          refine z_callV1 (rest := []) S (c_X5_count_m (n := n) (by omega) hz 9 (by decide)) qm_L_85 v_X5_count ⟨Nat.le_of_ble_eq_true rfl, Nat.le_of_ble_eq_true rfl⟩ rfl rfl hN hK hP hD hS hA (22) (xw_x) rfl rfl hl.1 rfl (Nat.le_of_ble_eq_true rfl) dL_agree_322 ⟨Nat.le_of_ble_eq_true rfl, Nat.le_of_ble_eq_true rfl⟩ (fun H locs hP hD hS => ?_)
          refine lv_aload_n hx hb dL_agree_325 rfl (lv_at hl 2 rfl) ?_
          refine lv_bipush (v := 11) hx hb dL_agree_326 (by decide) ?_
          refine va_iald hx hb hK hP (139 + (0)) 0 ((xw_r).trans (lw_0)) rfl (vp_in_nI (show 11 < 15 by decide) (by omega)) dL_agree_328 ?_
          refine z_top (v2 := .int (z 10)) (congrArg Value.int ((nf_11 rfl).trans (rfl))) ?_
          refine lv_icmp_ne (tgt := 393) hx hb dL_agree_329 (by decide) (fun c11 => absurd c11 (not_not_intro (num_9))) (fun c11 => ?_)
          refine lv_aload_n hx hb dL_agree_332 rfl (lv_at hl 0 rfl) ?_
          refine lv_bipush (v := 10) hx hb dL_agree_333 (by decide) ?_
          refine z_callV1 (rest := []) S (c_X5_count_m (n := n) (by omega) hz 10 (by decide)) qm_L_85 v_X5_count ⟨Nat.le_of_ble_eq_true rfl, Nat.le_of_ble_eq_true rfl⟩ rfl rfl hN hK hP hD hS hA (22) (xw_x) rfl rfl hl.1 rfl (Nat.le_of_ble_eq_true rfl) dL_agree_335 ⟨Nat.le_of_ble_eq_true rfl, Nat.le_of_ble_eq_true rfl⟩ (fun H locs hP hD hS => ?_)
          refine lv_aload_n hx hb dL_agree_338 rfl (lv_at hl 2 rfl) ?_
          refine lv_bipush (v := 12) hx hb dL_agree_339 (by decide) ?_
          refine va_iald hx hb hK hP (139 + (0)) 0 ((xw_r).trans (lw_0)) rfl (vp_in_nI (show 12 < 15 by decide) (by omega)) dL_agree_341 ?_
          refine z_top (v2 := .int (z 11)) (congrArg Value.int ((nf_12 rfl).trans (rfl))) ?_
          refine lv_icmp_ne (tgt := 393) hx hb dL_agree_342 (by decide) (fun c12 => absurd c12 (not_not_intro (num_10))) (fun c12 => ?_)
          refine lv_aload_n hx hb dL_agree_345 rfl (lv_at hl 0 rfl) ?_
          refine lv_bipush (v := 11) hx hb dL_agree_346 (by decide) ?_
          refine z_callV1 (rest := []) S (c_X5_count_m (n := n) (by omega) hz 11 (by decide)) qm_L_85 v_X5_count ⟨Nat.le_of_ble_eq_true rfl, Nat.le_of_ble_eq_true rfl⟩ rfl rfl hN hK hP hD hS hA (22) (xw_x) rfl rfl hl.1 rfl (Nat.le_of_ble_eq_true rfl) dL_agree_348 ⟨Nat.le_of_ble_eq_true rfl, Nat.le_of_ble_eq_true rfl⟩ (fun H locs hP hD hS => ?_)
          refine lv_aload_n hx hb dL_agree_351 rfl (lv_at hl 2 rfl) ?_
          refine lv_bipush (v := 13) hx hb dL_agree_352 (by decide) ?_
          refine va_iald hx hb hK hP (139 + (0)) 0 ((xw_r).trans (lw_0)) rfl (vp_in_nI (show 13 < 15 by decide) (by omega)) dL_agree_354 ?_
          refine z_top (v2 := .int (z 12)) (congrArg Value.int ((nf_13 rfl).trans (rfl))) ?_
          refine z_callS1 (rest := [.int (numP z n kp 11)]) S (c_L_ones (z 12)) qm_L_14 t_L_ones ⟨Nat.le_of_ble_eq_true rfl, Nat.le_of_ble_eq_true rfl⟩ rfl rfl hN hK hP hD hS hA rfl hl.1 rfl (Nat.le_of_ble_eq_true rfl) dL_agree_355 ⟨Nat.le_of_ble_eq_true rfl, Nat.le_of_ble_eq_true rfl⟩ (fun H locs hP hD hS => ?_)
          refine lv_icmp_ne (tgt := 393) hx hb dL_agree_358 (by decide) (fun c13 => absurd c13 (not_not_intro (num_11.trans (one4 hR (by omega)).1.symm))) (fun c13 => ?_)
          refine lv_aload_n hx hb dL_agree_361 rfl (lv_at hl 0 rfl) ?_
          refine lv_bipush (v := 12) hx hb dL_agree_362 (by decide) ?_
          refine z_callV1 (rest := []) S (c_X5_count_m (n := n) (by omega) hz 12 (by decide)) qm_L_85 v_X5_count ⟨Nat.le_of_ble_eq_true rfl, Nat.le_of_ble_eq_true rfl⟩ rfl rfl hN hK hP hD hS hA (22) (xw_x) rfl rfl hl.1 rfl (Nat.le_of_ble_eq_true rfl) dL_agree_364 ⟨Nat.le_of_ble_eq_true rfl, Nat.le_of_ble_eq_true rfl⟩ (fun H locs hP hD hS => ?_)
          refine lv_aload_n hx hb dL_agree_367 rfl (lv_at hl 2 rfl) ?_
          refine lv_bipush (v := 14) hx hb dL_agree_368 (by decide) ?_
          refine va_iald hx hb hK hP (139 + (0)) 0 ((xw_r).trans (lw_0)) rfl (vp_in_nI (show 14 < 15 by decide) (by omega)) dL_agree_370 ?_
          refine z_top (v2 := .int (z 13)) (congrArg Value.int ((nf_14 rfl).trans (rfl))) ?_
          refine z_callS1 (rest := [.int (numP z n kp 12)]) S (c_L_ones (z 13)) qm_L_14 t_L_ones ⟨Nat.le_of_ble_eq_true rfl, Nat.le_of_ble_eq_true rfl⟩ rfl rfl hN hK hP hD hS hA rfl hl.1 rfl (Nat.le_of_ble_eq_true rfl) dL_agree_371 ⟨Nat.le_of_ble_eq_true rfl, Nat.le_of_ble_eq_true rfl⟩ (fun H locs hP hD hS => ?_)
          refine lv_icmp_ne (tgt := 393) hx hb dL_agree_374 (by decide) (fun c14 => absurd c14 (not_not_intro (num_12.trans (one4 hR (by omega)).2.symm))) (fun c14 => ?_)
          refine lv_aload_n hx hb dL_agree_377 rfl (lv_at hl 0 rfl) ?_
          refine lv_bipush (v := 13) hx hb dL_agree_378 (by decide) ?_
          refine z_callV1 (rest := []) S (c_X5_count_m (n := n) (by omega) hz 13 (by decide)) qm_L_85 v_X5_count ⟨Nat.le_of_ble_eq_true rfl, Nat.le_of_ble_eq_true rfl⟩ rfl rfl hN hK hP hD hS hA (22) (xw_x) rfl rfl hl.1 rfl (Nat.le_of_ble_eq_true rfl) dL_agree_380 ⟨Nat.le_of_ble_eq_true rfl, Nat.le_of_ble_eq_true rfl⟩ (fun H locs hP hD hS => ?_)
          refine lv_aload_n hx hb dL_agree_383 rfl (lv_at hl 2 rfl) ?_
          refine lv_iconst (v := 5) hx hb dL_agree_384 (by decide) ?_
          refine va_iald hx hb hK hP (139 + (0)) 0 ((xw_r).trans (lw_0)) rfl (vp_in_nI (show 5 < 15 by decide) (by omega)) dL_agree_385 ?_
          refine z_top (v2 := .int (nI kp)) (congrArg Value.int (nf_5 rfl)) ?_
          refine lv_icmp_ne (tgt := 393) hx hb dL_agree_386 (by decide) (fun c15 => absurd c15 (not_not_intro (num_13))) (fun c15 => ?_)
          refine lv_iconst (v := 1) hx hb dL_agree_389 (by decide) ?_
          refine lv_goto (tgt := 394) hx hb dL_agree_390 (by decide) ?_
          exact z_zret hx hb hr hlocks hP hD hK hS (rfl) (rfl) rfl dL_agree_394
        | succ n136 ih136 =>
          intro i h_i H locs hP hD hS ls hl
          have li : i < n := by omega
          obtain ⟨m_, em_⟩ : ∃ m_, n - i = m_ + 1 := ⟨n - i - 1, by omega⟩
          have hl := (congrArg (fun qv_ => lv_has ls 9 [(0, .ref x), (1, .int yv), (2, .ref na), (3, .ref ma), (4, .int (z 6 + sumF z 1 n)), (5, .int (nI tk)), (6, .int (chD z n tk 1 60 i)), (7, qv_)]) (show Value.int (nI (n - i) - 1) = .int (nI m_) from congrArg Value.int ((congrArg (fun q => nI q - 1) em_).trans (pk_sub (a := m_ + 1) (b := 1) (by omega))))).mp hl
          refine lv_iload hx hb dL_agree_136 (lv_at hl 7 rfl) ?_
          refine lv_if_lt (tgt := 227) hx hb dL_agree_138 (by decide) (fun c16 => absurd c16 (nI_pos (n := m_) (by omega))) (fun c16 => ?_)
          refine lv_aload_n hx hb dL_agree_141 rfl (lv_at hl 2 rfl) ?_
          refine lv_aload_n hx hb dL_agree_142 rfl (lv_at hl 3 rfl) ?_
          refine lv_iload hx hb dL_agree_143 (lv_at hl 7 rfl) ?_
          refine lv_iload hx hb dL_agree_145 (lv_at hl 5 rfl) ?_
          refine lv_iconst (v := 1) hx hb dL_agree_147 (by decide) ?_
          refine lv_bipush (v := 60) hx hb dL_agree_148 (by decide) ?_
          refine z_callS1 (rest := []) S (c_L_can m_ tk 1 (by omega) (by omega) (by omega) 60) qm_L_36 t_L_can ⟨Nat.le_of_ble_eq_true rfl, Nat.le_of_ble_eq_true rfl⟩ rfl rfl hN hK hP hD hS hA rfl hl.1 rfl (Nat.le_of_ble_eq_true rfl) dL_agree_150 ⟨Nat.le_of_ble_eq_true rfl, Nat.le_of_ble_eq_true rfl⟩ (fun H locs hP hD hS => ?_)
          refine lv_if_eq (tgt := 221) hx hb dL_agree_153 (by decide) (fun c17 => ?_) (fun c17 => ?_)
          · have c17 := bI_0 c17
            refine lv_iinc (v := (nI m_) + (-1)) (lv' := [(7, .int ((nI m_) + (-1))), (0, .ref x), (1, .int yv), (2, .ref na), (3, .ref ma), (4, .int (z 6 + sumF z 1 n)), (5, .int (nI tk)), (6, .int (chD z n tk 1 60 i))]) hx hb dL_agree_221 hl (k := 7) rfl (by rfl) (by decide) rfl (fun ls hl => ?_)
            refine lv_goto (tgt := 136) hx hb dL_agree_224 (by decide) ?_
            have hl := (congrArg (fun qv_ => lv_has ls 9 [(7, .int ((nI m_) + (-1))), (0, .ref x), (1, .int yv), (2, .ref na), (3, .ref ma), (4, .int (z 6 + sumF z 1 n)), (5, .int (nI tk)), (6, qv_)]) (show Value.int (chD z n tk 1 60 i) = .int (chD z n tk 1 60 (i + 1)) from congrArg Value.int (((chD_s em_).trans (by rw [if_neg c17])).symm))).mp hl
            have hl := (congrArg (fun qv_ => lv_has ls 9 [(7, qv_), (0, .ref x), (1, .int yv), (2, .ref na), (3, .ref ma), (4, .int (z 6 + sumF z 1 n)), (5, .int (nI tk)), (6, .int (chD z n tk 1 60 (i + 1)))]) (show Value.int ((nI m_) + (-1)) = .int (nI (n - (i + 1)) - 1) from congrArg Value.int ((show nI m_ + -1 = nI m_ - 1 from (Int32.sub_eq_add_neg ..).symm).trans (congrArg (fun q => nI q - 1) (show m_ = n - (i + 1) by omega))))).mp hl
            exact ih136 (i + 1) (by omega) _ _ hP hD hS ls (lv_sub hl [1, 2, 3, 4, 5, 6, 7, 0] rfl)
          · have c17 := bI_1 c17
            refine lv_iload hx hb dL_agree_156 (lv_at hl 6 rfl) ?_
            refine lv_if_ge (tgt := 165) hx hb dL_agree_158 (by decide) (fun c18 => ?_) (fun c18 => ?_)
            · have c18 := z_nlt c18
              obtain ⟨bb, h_bb, e_bb⟩ := chD_nat hR (show 1 < 5 by decide) (show bt 60 0 600 by unfold bt; decide) (show i ≤ n by omega) c18
              have hl := (congrArg (fun qv_ => lv_has ls 9 [(0, .ref x), (1, .int yv), (2, .ref na), (3, .ref ma), (4, .int (z 6 + sumF z 1 n)), (5, .int (nI tk)), (6, qv_), (7, .int (nI m_))]) (show Value.int (chD z n tk 1 60 i) = .int (nI bb) from congrArg Value.int (e_bb))).mp hl
              have c18b : ¬ nI bb < 0 := nI_pos (by omega)
              refine lv_aload_n hx hb dL_agree_165 rfl (lv_at hl 3 rfl) ?_
              refine lv_iload hx hb dL_agree_166 (lv_at hl 6 rfl) ?_
              refine lv_iconst (v := 1) hx hb dL_agree_168 (by decide) ?_
              refine lv_bipush (v := 60) hx hb dL_agree_169 (by decide) ?_
              refine z_callS1 (rest := []) S (c_L_value bb 1 (by omega) (by omega) 60) qm_L_22 t_L_value ⟨Nat.le_of_ble_eq_true rfl, Nat.le_of_ble_eq_true rfl⟩ rfl rfl hN hK hP hD hS hA rfl hl.1 rfl (Nat.le_of_ble_eq_true rfl) dL_agree_171 ⟨Nat.le_of_ble_eq_true rfl, Nat.le_of_ble_eq_true rfl⟩ (fun H locs hP hD hS => ?_)
              refine lv_aload_n hx hb dL_agree_174 rfl (lv_at hl 3 rfl) ?_
              refine lv_iload hx hb dL_agree_175 (lv_at hl 7 rfl) ?_
              refine lv_iconst (v := 1) hx hb dL_agree_177 (by decide) ?_
              refine lv_bipush (v := 60) hx hb dL_agree_178 (by decide) ?_
              refine z_callS1 (rest := [.int (valP (z (25 + 16 * bb + 1)) 60)]) S (c_L_value m_ 1 (by omega) (by omega) 60) qm_L_22 t_L_value ⟨Nat.le_of_ble_eq_true rfl, Nat.le_of_ble_eq_true rfl⟩ rfl rfl hN hK hP hD hS hA rfl hl.1 rfl (Nat.le_of_ble_eq_true rfl) dL_agree_180 ⟨Nat.le_of_ble_eq_true rfl, Nat.le_of_ble_eq_true rfl⟩ (fun H locs hP hD hS => ?_)
              refine lv_isub hx hb dL_agree_183  ?_
              refine lv_istore (lv' := [(8, .int ((valP (z (25 + 16 * bb + 1)) 60) - (valP (z (25 + 16 * m_ + 1)) 60))), (0, .ref x), (1, .int yv), (2, .ref na), (3, .ref ma), (4, .int (z 6 + sumF z 1 n)), (5, .int (nI tk)), (6, .int (nI bb)), (7, .int (nI m_))]) hx hb dL_agree_184 hl (by decide) rfl (fun ls hl => ?_)
              refine lv_iload hx hb dL_agree_186 (lv_at hl 0 rfl) ?_
              refine lv_if_gt (tgt := 217) hx hb dL_agree_188 (by decide) (fun c19 => ?_) (fun c19 => ?_)
              · skip
                refine lv_iload hx hb dL_agree_217 (lv_at hl 8 rfl) ?_
                refine lv_istore (lv' := [(6, .int (nI m_)), (8, .int ((valP (z (25 + 16 * bb + 1)) 60) - (valP (z (25 + 16 * m_ + 1)) 60))), (0, .ref x), (1, .int yv), (2, .ref na), (3, .ref ma), (4, .int (z 6 + sumF z 1 n)), (5, .int (nI tk)), (7, .int (nI m_))]) hx hb dL_agree_219 hl (by decide) rfl (fun ls hl => ?_)
                refine lv_iinc (v := (nI m_) + (-1)) (lv' := [(7, .int ((nI m_) + (-1))), (6, .int (nI m_)), (8, .int ((valP (z (25 + 16 * bb + 1)) 60) - (valP (z (25 + 16 * m_ + 1)) 60))), (0, .ref x), (1, .int yv), (2, .ref na), (3, .ref ma), (4, .int (z 6 + sumF z 1 n)), (5, .int (nI tk))]) hx hb dL_agree_221 hl (k := 8) rfl (by rfl) (by decide) rfl (fun ls hl => ?_)
                refine lv_goto (tgt := 136) hx hb dL_agree_224 (by decide) ?_
                have hl := (congrArg (fun qv_ => lv_has ls 9 [(7, .int ((nI m_) + (-1))), (6, qv_), (8, .int ((valP (z (25 + 16 * bb + 1)) 60) - (valP (z (25 + 16 * m_ + 1)) 60))), (0, .ref x), (1, .int yv), (2, .ref na), (3, .ref ma), (4, .int (z 6 + sumF z 1 n)), (5, .int (nI tk))]) (show Value.int (nI m_) = .int (chD z n tk 1 60 (i + 1)) from congrArg Value.int (((chD_s em_).trans (by rw [e_bb, show cl (nI bb) = bb from nI_clamp (by omega)]; rw [if_pos c17, if_neg c18b, if_pos c19])).symm))).mp hl
                have hl := (congrArg (fun qv_ => lv_has ls 9 [(7, qv_), (6, .int (chD z n tk 1 60 (i + 1))), (8, .int ((valP (z (25 + 16 * bb + 1)) 60) - (valP (z (25 + 16 * m_ + 1)) 60))), (0, .ref x), (1, .int yv), (2, .ref na), (3, .ref ma), (4, .int (z 6 + sumF z 1 n)), (5, .int (nI tk))]) (show Value.int ((nI m_) + (-1)) = .int (nI (n - (i + 1)) - 1) from congrArg Value.int ((show nI m_ + -1 = nI m_ - 1 from (Int32.sub_eq_add_neg ..).symm).trans (congrArg (fun q => nI q - 1) (show m_ = n - (i + 1) by omega))))).mp hl
                exact ih136 (i + 1) (by omega) _ _ hP hD hS ls (lv_sub hl [3, 4, 5, 6, 7, 8, 1, 0] rfl)
              · skip
                refine lv_iload hx hb dL_agree_191 (lv_at hl 0 rfl) ?_
                refine lv_if_ne (tgt := 221) hx hb dL_agree_193 (by decide) (fun c20 => ?_) (fun c20 => ?_)
                · skip
                  refine lv_iinc (v := (nI m_) + (-1)) (lv' := [(7, .int ((nI m_) + (-1))), (8, .int ((valP (z (25 + 16 * bb + 1)) 60) - (valP (z (25 + 16 * m_ + 1)) 60))), (0, .ref x), (1, .int yv), (2, .ref na), (3, .ref ma), (4, .int (z 6 + sumF z 1 n)), (5, .int (nI tk)), (6, .int (nI bb))]) hx hb dL_agree_221 hl (k := 8) rfl (by rfl) (by decide) rfl (fun ls hl => ?_)
                  refine lv_goto (tgt := 136) hx hb dL_agree_224 (by decide) ?_
                  have hl := (congrArg (fun qv_ => lv_has ls 9 [(7, .int ((nI m_) + (-1))), (8, .int ((valP (z (25 + 16 * bb + 1)) 60) - (valP (z (25 + 16 * m_ + 1)) 60))), (0, .ref x), (1, .int yv), (2, .ref na), (3, .ref ma), (4, .int (z 6 + sumF z 1 n)), (5, .int (nI tk)), (6, qv_)]) (show Value.int (nI bb) = .int (chD z n tk 1 60 (i + 1)) from congrArg Value.int (((chD_s em_).trans (by rw [e_bb, show cl (nI bb) = bb from nI_clamp (by omega)]; rw [if_pos c17, if_neg c18b, if_neg c19, if_neg c20])).symm))).mp hl
                  have hl := (congrArg (fun qv_ => lv_has ls 9 [(7, qv_), (8, .int ((valP (z (25 + 16 * bb + 1)) 60) - (valP (z (25 + 16 * m_ + 1)) 60))), (0, .ref x), (1, .int yv), (2, .ref na), (3, .ref ma), (4, .int (z 6 + sumF z 1 n)), (5, .int (nI tk)), (6, .int (chD z n tk 1 60 (i + 1)))]) (show Value.int ((nI m_) + (-1)) = .int (nI (n - (i + 1)) - 1) from congrArg Value.int ((show nI m_ + -1 = nI m_ - 1 from (Int32.sub_eq_add_neg ..).symm).trans (congrArg (fun q => nI q - 1) (show m_ = n - (i + 1) by omega))))).mp hl
                  exact ih136 (i + 1) (by omega) _ _ hP hD hS ls (lv_sub hl [2, 3, 4, 5, 6, 7, 8, 0] rfl)
                · skip
                  refine lv_aload_n hx hb dL_agree_196 rfl (lv_at hl 4 rfl) ?_
                  refine lv_bipush (v := 16) hx hb dL_agree_197 (by decide) ?_
                  refine lv_iload hx hb dL_agree_199 (lv_at hl 8 rfl) ?_
                  refine lv_imul hx hb dL_agree_201 ?_
                  refine z_top (v2 := .int (nI (16 * m_))) (congrArg Value.int (pk_mul 16 m_)) ?_
                  refine lv_iconst (v := 1) hx hb dL_agree_202 (by decide) ?_
                  refine lv_iadd hx hb dL_agree_203  ?_
                  refine z_top (v2 := .int (nI (16 * m_ + 1))) (congrArg Value.int (nI_add (16 * m_) 1)) ?_
                  refine va_iald hx hb hK hP (139 + (1)) 0 ((xw_r).trans (lw_1)) rfl (vp_in_nI (show 16 * m_ + 1 < 64 by omega) (by omega)) dL_agree_204 ?_
                  refine z_top (v2 := .int (z (14 + 16 * m_ + 1))) (congrArg Value.int ((lm_at rfl (show 16 * m_ + 1 < 64 by omega) (show 14 + (16 * m_ + 1) = 14 + 16 * m_ + 1 by omega)).trans (rfl))) ?_
                  refine lv_aload_n hx hb dL_agree_205 rfl (lv_at hl 4 rfl) ?_
                  refine lv_bipush (v := 16) hx hb dL_agree_206 (by decide) ?_
                  refine lv_iload hx hb dL_agree_208 (lv_at hl 7 rfl) ?_
                  refine lv_imul hx hb dL_agree_210 ?_
                  refine z_top (v2 := .int (nI (16 * bb))) (congrArg Value.int (pk_mul 16 bb)) ?_
                  refine lv_iconst (v := 1) hx hb dL_agree_211 (by decide) ?_
                  refine lv_iadd hx hb dL_agree_212  ?_
                  refine z_top (v2 := .int (nI (16 * bb + 1))) (congrArg Value.int (nI_add (16 * bb) 1)) ?_
                  refine va_iald hx hb hK hP (139 + (1)) 0 ((xw_r).trans (lw_1)) rfl (vp_in_nI (show 16 * bb + 1 < 64 by omega) (by omega)) dL_agree_213 ?_
                  refine z_top (v2 := .int (z (14 + 16 * bb + 1))) (congrArg Value.int ((lm_at rfl (show 16 * bb + 1 < 64 by omega) (show 14 + (16 * bb + 1) = 14 + 16 * bb + 1 by omega)).trans (rfl))) ?_
                  refine lv_icmp_gt (tgt := 221) hx hb dL_agree_214 (by decide) (fun c21 => ?_) (fun c21 => ?_)
                  · skip
                    refine lv_iinc (v := (nI m_) + (-1)) (lv' := [(7, .int ((nI m_) + (-1))), (8, .int ((valP (z (25 + 16 * bb + 1)) 60) - (valP (z (25 + 16 * m_ + 1)) 60))), (0, .ref x), (1, .int yv), (2, .ref na), (3, .ref ma), (4, .int (z 6 + sumF z 1 n)), (5, .int (nI tk)), (6, .int (nI bb))]) hx hb dL_agree_221 hl (k := 8) rfl (by rfl) (by decide) rfl (fun ls hl => ?_)
                    refine lv_goto (tgt := 136) hx hb dL_agree_224 (by decide) ?_
                    have hl := (congrArg (fun qv_ => lv_has ls 9 [(7, .int ((nI m_) + (-1))), (8, .int ((valP (z (25 + 16 * bb + 1)) 60) - (valP (z (25 + 16 * m_ + 1)) 60))), (0, .ref x), (1, .int yv), (2, .ref na), (3, .ref ma), (4, .int (z 6 + sumF z 1 n)), (5, .int (nI tk)), (6, qv_)]) (show Value.int (nI bb) = .int (chD z n tk 1 60 (i + 1)) from congrArg Value.int (((chD_s em_).trans (by rw [e_bb, show cl (nI bb) = bb from nI_clamp (by omega)]; rw [if_pos c17, if_neg c18b, if_neg c19, if_pos c20, if_pos c21])).symm))).mp hl
                    have hl := (congrArg (fun qv_ => lv_has ls 9 [(7, qv_), (8, .int ((valP (z (25 + 16 * bb + 1)) 60) - (valP (z (25 + 16 * m_ + 1)) 60))), (0, .ref x), (1, .int yv), (2, .ref na), (3, .ref ma), (4, .int (z 6 + sumF z 1 n)), (5, .int (nI tk)), (6, .int (chD z n tk 1 60 (i + 1)))]) (show Value.int ((nI m_) + (-1)) = .int (nI (n - (i + 1)) - 1) from congrArg Value.int ((show nI m_ + -1 = nI m_ - 1 from (Int32.sub_eq_add_neg ..).symm).trans (congrArg (fun q => nI q - 1) (show m_ = n - (i + 1) by omega))))).mp hl
                    exact ih136 (i + 1) (by omega) _ _ hP hD hS ls (lv_sub hl [2, 3, 4, 5, 6, 7, 8, 0] rfl)
                  · skip
                    refine lv_iload hx hb dL_agree_217 (lv_at hl 8 rfl) ?_
                    refine lv_istore (lv' := [(6, .int (nI m_)), (8, .int ((valP (z (25 + 16 * bb + 1)) 60) - (valP (z (25 + 16 * m_ + 1)) 60))), (0, .ref x), (1, .int yv), (2, .ref na), (3, .ref ma), (4, .int (z 6 + sumF z 1 n)), (5, .int (nI tk)), (7, .int (nI m_))]) hx hb dL_agree_219 hl (by decide) rfl (fun ls hl => ?_)
                    refine lv_iinc (v := (nI m_) + (-1)) (lv' := [(7, .int ((nI m_) + (-1))), (6, .int (nI m_)), (8, .int ((valP (z (25 + 16 * bb + 1)) 60) - (valP (z (25 + 16 * m_ + 1)) 60))), (0, .ref x), (1, .int yv), (2, .ref na), (3, .ref ma), (4, .int (z 6 + sumF z 1 n)), (5, .int (nI tk))]) hx hb dL_agree_221 hl (k := 8) rfl (by rfl) (by decide) rfl (fun ls hl => ?_)
                    refine lv_goto (tgt := 136) hx hb dL_agree_224 (by decide) ?_
                    have hl := (congrArg (fun qv_ => lv_has ls 9 [(7, .int ((nI m_) + (-1))), (6, qv_), (8, .int ((valP (z (25 + 16 * bb + 1)) 60) - (valP (z (25 + 16 * m_ + 1)) 60))), (0, .ref x), (1, .int yv), (2, .ref na), (3, .ref ma), (4, .int (z 6 + sumF z 1 n)), (5, .int (nI tk))]) (show Value.int (nI m_) = .int (chD z n tk 1 60 (i + 1)) from congrArg Value.int (((chD_s em_).trans (by rw [e_bb, show cl (nI bb) = bb from nI_clamp (by omega)]; rw [if_pos c17, if_neg c18b, if_neg c19, if_pos c20, if_neg c21])).symm))).mp hl
                    have hl := (congrArg (fun qv_ => lv_has ls 9 [(7, qv_), (6, .int (chD z n tk 1 60 (i + 1))), (8, .int ((valP (z (25 + 16 * bb + 1)) 60) - (valP (z (25 + 16 * m_ + 1)) 60))), (0, .ref x), (1, .int yv), (2, .ref na), (3, .ref ma), (4, .int (z 6 + sumF z 1 n)), (5, .int (nI tk))]) (show Value.int ((nI m_) + (-1)) = .int (nI (n - (i + 1)) - 1) from congrArg Value.int ((show nI m_ + -1 = nI m_ - 1 from (Int32.sub_eq_add_neg ..).symm).trans (congrArg (fun q => nI q - 1) (show m_ = n - (i + 1) by omega))))).mp hl
                    exact ih136 (i + 1) (by omega) _ _ hP hD hS ls (lv_sub hl [3, 4, 5, 6, 7, 8, 1, 0] rfl)
            · have c18 := z_lt c18
              refine lv_iconst (v := 1) hx hb dL_agree_161 (by decide) ?_
              refine lv_goto (tgt := 184) hx hb dL_agree_162 (by decide) ?_
              refine lv_istore (lv' := [(8, .int 1), (0, .ref x), (1, .int yv), (2, .ref na), (3, .ref ma), (4, .int (z 6 + sumF z 1 n)), (5, .int (nI tk)), (6, .int (chD z n tk 1 60 i)), (7, .int (nI m_))]) hx hb dL_agree_184 hl (by decide) rfl (fun ls hl => ?_)
              refine lv_iload hx hb dL_agree_186 (lv_at hl 0 rfl) ?_
              refine lv_if_gt (tgt := 217) hx hb dL_agree_188 (by decide) (fun c22 => ?_) (fun c22 => absurd (by decide) c22)
              refine lv_iload hx hb dL_agree_217 (lv_at hl 8 rfl) ?_
              refine lv_istore (lv' := [(6, .int (nI m_)), (8, .int 1), (0, .ref x), (1, .int yv), (2, .ref na), (3, .ref ma), (4, .int (z 6 + sumF z 1 n)), (5, .int (nI tk)), (7, .int (nI m_))]) hx hb dL_agree_219 hl (by decide) rfl (fun ls hl => ?_)
              refine lv_iinc (v := (nI m_) + (-1)) (lv' := [(7, .int ((nI m_) + (-1))), (6, .int (nI m_)), (8, .int 1), (0, .ref x), (1, .int yv), (2, .ref na), (3, .ref ma), (4, .int (z 6 + sumF z 1 n)), (5, .int (nI tk))]) hx hb dL_agree_221 hl (k := 8) rfl (by rfl) (by decide) rfl (fun ls hl => ?_)
              refine lv_goto (tgt := 136) hx hb dL_agree_224 (by decide) ?_
              have hl := (congrArg (fun qv_ => lv_has ls 9 [(7, .int ((nI m_) + (-1))), (6, qv_), (8, .int 1), (0, .ref x), (1, .int yv), (2, .ref na), (3, .ref ma), (4, .int (z 6 + sumF z 1 n)), (5, .int (nI tk))]) (show Value.int (nI m_) = .int (chD z n tk 1 60 (i + 1)) from congrArg Value.int (((chD_s em_).trans (by rw [if_pos c17, if_pos c18])).symm))).mp hl
              have hl := (congrArg (fun qv_ => lv_has ls 9 [(7, qv_), (6, .int (chD z n tk 1 60 (i + 1))), (8, .int 1), (0, .ref x), (1, .int yv), (2, .ref na), (3, .ref ma), (4, .int (z 6 + sumF z 1 n)), (5, .int (nI tk))]) (show Value.int ((nI m_) + (-1)) = .int (nI (n - (i + 1)) - 1) from congrArg Value.int ((show nI m_ + -1 = nI m_ - 1 from (Int32.sub_eq_add_neg ..).symm).trans (congrArg (fun q => nI q - 1) (show m_ = n - (i + 1) by omega))))).mp hl
              exact ih136 (i + 1) (by omega) _ _ hP hD hS ls (lv_sub hl [3, 4, 5, 6, 7, 8, 1, 0] rfl)
      have hl := (congrArg (fun qv_ => lv_has ls 9 [(7, .int ((nI n) - 1)), (6, qv_), (5, .int (nI tk)), (0, .ref x), (1, .int yv), (2, .ref na), (3, .ref ma), (4, .int (z 6 + sumF z 1 n))]) (show Value.int (-1) = .int (chD z n tk 1 60 0) from congrArg Value.int (by rfl))).mp hl
      have hl := (congrArg (fun qv_ => lv_has ls 9 [(7, qv_), (6, .int (chD z n tk 1 60 0)), (5, .int (nI tk)), (0, .ref x), (1, .int yv), (2, .ref na), (3, .ref ma), (4, .int (z 6 + sumF z 1 n))]) (show Value.int ((nI n) - 1) = .int (nI (n - 0) - 1) from congrArg Value.int (by rfl))).mp hl
      exact K136 n 0 (by omega) _ _ hP hD hS ls (lv_sub hl [3, 4, 5, 6, 7, 2, 1, 0] rfl)
    | succ n8 ih8 =>
      intro i h_i H locs hP hD hS ls hl
      have li : i < n := by omega
      refine lv_iload hx hb dL_agree_8 (lv_at hl 5 rfl) ?_
      refine lv_aload_n hx hb dL_agree_10 rfl (lv_at hl 2 rfl) ?_
      refine lv_iconst (v := 0) hx hb dL_agree_11 (by decide) ?_
      refine va_iald hx hb hK hP (139 + (0)) 0 ((xw_r).trans (lw_0)) rfl (vp_in_nI (show 0 < 15 by decide) (by omega)) dL_agree_12 ?_
      refine z_top (v2 := .int (nI n)) (congrArg Value.int ((nf_0 rfl).trans (hz))) ?_
      refine lv_icmp_ge (tgt := 117) hx hb dL_agree_13 (by decide) (fun c23 => absurd c23 (nI_ge (a := i) (b := n) (by omega) (by omega))) (fun c23 => ?_)
      have c23 := z_lt c23
      refine lv_iload hx hb dL_agree_16 (lv_at hl 4 rfl) ?_
      refine lv_aload_n hx hb dL_agree_18 rfl (lv_at hl 3 rfl) ?_
      refine lv_bipush (v := 16) hx hb dL_agree_19 (by decide) ?_
      refine lv_iload hx hb dL_agree_21 (lv_at hl 5 rfl) ?_
      refine lv_imul hx hb dL_agree_23 ?_
      refine z_top (v2 := .int (nI (16 * i))) (congrArg Value.int (pk_mul 16 i)) ?_
      refine lv_iconst (v := 1) hx hb dL_agree_24 (by decide) ?_
      refine lv_iadd hx hb dL_agree_25  ?_
      refine z_top (v2 := .int (nI (16 * i + 1))) (congrArg Value.int (nI_add (16 * i) 1)) ?_
      refine va_iald hx hb hK hP (139 + (1)) 0 ((xw_r).trans (lw_1)) rfl (vp_in_nI (show 16 * i + 1 < 64 by omega) (by omega)) dL_agree_26 ?_
      refine z_top (v2 := .int (z (14 + 16 * i + 1))) (congrArg Value.int ((lm_at rfl (show 16 * i + 1 < 64 by omega) (show 14 + (16 * i + 1) = 14 + 16 * i + 1 by omega)).trans (rfl))) ?_
      refine lv_iadd hx hb dL_agree_27  ?_
      refine lv_istore (lv' := [(4, .int ((z 6 + sumF z 1 i) + (z (14 + 16 * i + 1)))), (0, .ref x), (1, .int yv), (2, .ref na), (3, .ref ma), (5, .int (nI i))]) hx hb dL_agree_28 hl (by decide) rfl (fun ls hl => ?_)
      refine lv_iconst (v := 0) hx hb dL_agree_30 (by decide) ?_
      refine lv_istore (lv' := [(6, .int 0), (4, .int ((z 6 + sumF z 1 i) + (z (14 + 16 * i + 1)))), (0, .ref x), (1, .int yv), (2, .ref na), (3, .ref ma), (5, .int (nI i))]) hx hb dL_agree_31 hl (by decide) rfl (fun ls hl => ?_)
      have K33 : ∀ (n33 j : Nat), j + n33 = 11 → ∀ (H : Heap) (locs : List Loc), va_P D vwCl (xw0 cI cC cM cB ad z t sg sz r x h ah (nI nx) (nI kp) zh (lwS cI na ma z kp wr)) H → va_D A (xw0 cI cC cM cB ad z t sg sz r x h ah (nI nx) (nI kp) zh (lwS cI na ma z kp wr)) → va_S A s.heap H locs → ∀ ls : Array Slot, lv_has ls 9 [(0, .ref x), (1, .int yv), (2, .ref na), (3, .ref ma), (4, .int ((z 6 + sumF z 1 i) + (z (14 + 16 * i + 1)))), (5, .int (nI i)), (6, .int (nI j))] → W p l e ({ frames := 7, cells := 0, slots := 0, locals := 159 } : Room) s m ([.ref x, .int yv, .ref na, .ref ma] : List Value).toArray below meth c H locs 0 0 (MQ below (zQ D (zT cI cC cM cB cJ) (xw0 cI cC cM cB ad z t sg sz r x h ah (nI nx) (nI kp) zh (lwS cI na ma z kp wr)) (some (.int 1)) A) ([.ref x, .int yv, .ref na, .ref ma] : List Value).toArray s 0 0 A) (F0 m 33 ls []) := by
        intro n33
        induction n33 with
        | zero =>
          intro j h_j H locs hP hD hS ls hl
          have ej : 11 = j := by omega
          subst ej
          refine lv_iload hx hb dL_agree_33 (lv_at hl 6 rfl) ?_
          refine lv_bipush (v := 11) hx hb dL_agree_35 (by decide) ?_
          refine lv_icmp_ge (tgt := 69) hx hb dL_agree_37 (by decide) (fun c24 => ?_) (fun c24 => absurd (nI_le (a := 11) (b := 11) (by omega) (by omega)) c24)
          have c24 := z_nlt c24
          refine lv_iconst (v := 0) hx hb dL_agree_69 (by decide) ?_
          refine lv_istore (lv' := [(6, .int 0), (0, .ref x), (1, .int yv), (2, .ref na), (3, .ref ma), (4, .int ((z 6 + sumF z 1 i) + (z (14 + 16 * i + 1)))), (5, .int (nI i))]) hx hb dL_agree_70 hl (by decide) rfl (fun ls hl => ?_)
          have K72 : ∀ (n72 k : Nat), k + n72 = 5 → ∀ (H : Heap) (locs : List Loc), va_P D vwCl (xw0 cI cC cM cB ad z t sg sz r x h ah (nI nx) (nI kp) zh (lwS cI na ma z kp wr)) H → va_D A (xw0 cI cC cM cB ad z t sg sz r x h ah (nI nx) (nI kp) zh (lwS cI na ma z kp wr)) → va_S A s.heap H locs → ∀ ls : Array Slot, lv_has ls 9 [(0, .ref x), (1, .int yv), (2, .ref na), (3, .ref ma), (4, .int ((z 6 + sumF z 1 i) + (z (14 + 16 * i + 1)))), (5, .int (nI i)), (6, .int (nI k))] → W p l e ({ frames := 7, cells := 0, slots := 0, locals := 159 } : Room) s m ([.ref x, .int yv, .ref na, .ref ma] : List Value).toArray below meth c H locs 0 0 (MQ below (zQ D (zT cI cC cM cB cJ) (xw0 cI cC cM cB ad z t sg sz r x h ah (nI nx) (nI kp) zh (lwS cI na ma z kp wr)) (some (.int 1)) A) ([.ref x, .int yv, .ref na, .ref ma] : List Value).toArray s 0 0 A) (F0 m 72 ls []) := by
            intro n72
            induction n72 with
            | zero =>
              intro k h_k H locs hP hD hS ls hl
              have ek : 5 = k := by omega
              subst ek
              refine lv_iload hx hb dL_agree_72 (lv_at hl 6 rfl) ?_
              refine lv_iconst (v := 5) hx hb dL_agree_74 (by decide) ?_
              refine lv_icmp_ge (tgt := 111) hx hb dL_agree_75 (by decide) (fun c25 => ?_) (fun c25 => absurd (nI_le (a := 5) (b := 5) (by omega) (by omega)) c25)
              have c25 := z_nlt c25
              refine lv_iinc (v := nI (i + 1)) (lv' := [(5, .int (nI (i + 1))), (0, .ref x), (1, .int yv), (2, .ref na), (3, .ref ma), (4, .int ((z 6 + sumF z 1 i) + (z (14 + 16 * i + 1)))), (6, .int (nI 5))]) hx hb dL_agree_111 hl (k := 5) rfl (nI_1 _) (by decide) rfl (fun ls hl => ?_)
              refine lv_goto (tgt := 8) hx hb dL_agree_114 (by decide) ?_
              have hl := (congrArg (fun qv_ => lv_has ls 9 [(5, .int (nI (i + 1))), (0, .ref x), (1, .int yv), (2, .ref na), (3, .ref ma), (4, qv_), (6, .int (nI 5))]) (show Value.int ((z 6 + sumF z 1 i) + (z (14 + 16 * i + 1))) = .int (z 6 + sumF z 1 (i + 1)) from congrArg Value.int (Int32.add_assoc ..))).mp hl
              exact ih8 (i + 1) (by omega) _ _ hP hD hS ls (lv_sub hl [1, 2, 3, 4, 5, 0] rfl)
            | succ n72 ih72 =>
              intro k h_k H locs hP hD hS ls hl
              have lk : k < 5 := by omega
              refine lv_iload hx hb dL_agree_72 (lv_at hl 6 rfl) ?_
              refine lv_iconst (v := 5) hx hb dL_agree_74 (by decide) ?_
              refine lv_icmp_ge (tgt := 111) hx hb dL_agree_75 (by decide) (fun c26 => absurd c26 (nI_ge (a := k) (b := 5) (by omega) (by omega))) (fun c26 => ?_)
              have c26 := z_lt c26
              refine lv_aload_n hx hb dL_agree_78 rfl (lv_at hl 0 rfl) ?_
              refine lv_iload hx hb dL_agree_79 (lv_at hl 5 rfl) ?_
              refine lv_iload hx hb dL_agree_81 (lv_at hl 6 rfl) ?_
              refine lv_iconst (v := 0) hx hb dL_agree_83 (by decide) ?_
              refine z_callV1 (rest := []) S (c_X5_skill_m (n := n) (by omega) hz (j := i) (k := k) (by omega) (by omega)) qm_L_79 v_X5_skill ⟨Nat.le_of_ble_eq_true rfl, Nat.le_of_ble_eq_true rfl⟩ rfl rfl hN hK hP hD hS hA (22) (xw_x) rfl rfl hl.1 rfl (Nat.le_of_ble_eq_true rfl) dL_agree_84 ⟨Nat.le_of_ble_eq_true rfl, Nat.le_of_ble_eq_true rfl⟩ (fun H locs hP hD hS => ?_)
              refine lv_aload_n hx hb dL_agree_87 rfl (lv_at hl 3 rfl) ?_
              refine lv_bipush (v := 16) hx hb dL_agree_88 (by decide) ?_
              refine lv_iload hx hb dL_agree_90 (lv_at hl 5 rfl) ?_
              refine lv_imul hx hb dL_agree_92 ?_
              refine z_top (v2 := .int (nI (16 * i))) (congrArg Value.int (pk_mul 16 i)) ?_
              refine lv_bipush (v := 11) hx hb dL_agree_93 (by decide) ?_
              refine lv_iadd hx hb dL_agree_95  ?_
              refine z_top (v2 := .int (nI (16 * i + 11))) (congrArg Value.int (nI_add (16 * i) 11)) ?_
              refine lv_iload hx hb dL_agree_96 (lv_at hl 6 rfl) ?_
              refine lv_iadd hx hb dL_agree_98  ?_
              refine z_top (v2 := .int (nI (16 * i + 11 + k))) (congrArg Value.int (nI_add (16 * i + 11) k)) ?_
              refine va_iald hx hb hK hP (139 + (1)) 0 ((xw_r).trans (lw_1)) rfl (vp_in_nI (show 16 * i + 11 + k < 64 by omega) (by omega)) dL_agree_99 ?_
              refine z_top (v2 := .int (z (25 + 16 * i + k))) (congrArg Value.int ((lm_at rfl (show 16 * i + 11 + k < 64 by omega) (show 14 + (16 * i + 11 + k) = 25 + 16 * i + k by omega)).trans (rfl))) ?_
              refine lv_icmp_eq (tgt := 105) hx hb dL_agree_100 (by decide) (fun c27 => ?_) (fun c27 => absurd (rfl) c27)
              refine lv_iinc (v := nI (k + 1)) (lv' := [(6, .int (nI (k + 1))), (0, .ref x), (1, .int yv), (2, .ref na), (3, .ref ma), (4, .int ((z 6 + sumF z 1 i) + (z (14 + 16 * i + 1)))), (5, .int (nI i))]) hx hb dL_agree_105 hl (k := 6) rfl (nI_1 _) (by decide) rfl (fun ls hl => ?_)
              refine lv_goto (tgt := 72) hx hb dL_agree_108 (by decide) ?_
              exact ih72 (k + 1) (by omega) _ _ hP hD hS ls (lv_sub hl [1, 2, 3, 4, 5, 6, 0] rfl)
          have hl := (congrArg (fun qv_ => lv_has ls 9 [(6, qv_), (0, .ref x), (1, .int yv), (2, .ref na), (3, .ref ma), (4, .int ((z 6 + sumF z 1 i) + (z (14 + 16 * i + 1)))), (5, .int (nI i))]) (show Value.int 0 = .int (nI 0) from congrArg Value.int (by rfl))).mp hl
          exact K72 5 0 (by omega) _ _ hP hD hS ls (lv_sub hl [1, 2, 3, 4, 5, 6, 0] rfl)
        | succ n33 ih33 =>
          intro j h_j H locs hP hD hS ls hl
          have lj : j < 11 := by omega
          refine lv_iload hx hb dL_agree_33 (lv_at hl 6 rfl) ?_
          refine lv_bipush (v := 11) hx hb dL_agree_35 (by decide) ?_
          refine lv_icmp_ge (tgt := 69) hx hb dL_agree_37 (by decide) (fun c28 => absurd c28 (nI_ge (a := j) (b := 11) (by omega) (by omega))) (fun c28 => ?_)
          have c28 := z_lt c28
          refine lv_aload_n hx hb dL_agree_40 rfl (lv_at hl 0 rfl) ?_
          refine lv_iload hx hb dL_agree_41 (lv_at hl 5 rfl) ?_
          refine lv_iload hx hb dL_agree_43 (lv_at hl 6 rfl) ?_
          refine z_callV1 (rest := []) S (c_X5_member_m (n := n) (by omega) hz (j := i) (q_ := j) (by omega) (by omega)) qm_L_72 v_X5_member ⟨Nat.le_of_ble_eq_true rfl, Nat.le_of_ble_eq_true rfl⟩ rfl rfl hN hK hP hD hS hA (22) (xw_x) rfl rfl hl.1 rfl (Nat.le_of_ble_eq_true rfl) dL_agree_45 ⟨Nat.le_of_ble_eq_true rfl, Nat.le_of_ble_eq_true rfl⟩ (fun H locs hP hD hS => ?_)
          refine lv_aload_n hx hb dL_agree_48 rfl (lv_at hl 3 rfl) ?_
          refine lv_bipush (v := 16) hx hb dL_agree_49 (by decide) ?_
          refine lv_iload hx hb dL_agree_51 (lv_at hl 5 rfl) ?_
          refine lv_imul hx hb dL_agree_53 ?_
          refine z_top (v2 := .int (nI (16 * i))) (congrArg Value.int (pk_mul 16 i)) ?_
          refine lv_iload hx hb dL_agree_54 (lv_at hl 6 rfl) ?_
          refine lv_iadd hx hb dL_agree_56  ?_
          refine z_top (v2 := .int (nI (16 * i + j))) (congrArg Value.int (nI_add (16 * i) j)) ?_
          refine va_iald hx hb hK hP (139 + (1)) 0 ((xw_r).trans (lw_1)) rfl (vp_in_nI (show 16 * i + j < 64 by omega) (by omega)) dL_agree_57 ?_
          refine z_top (v2 := .int (z (14 + 16 * i + j))) (congrArg Value.int ((lm_at rfl (show 16 * i + j < 64 by omega) (show 14 + (16 * i + j) = 14 + 16 * i + j by omega)).trans (rfl))) ?_
          refine lv_icmp_eq (tgt := 63) hx hb dL_agree_58 (by decide) (fun c29 => ?_) (fun c29 => absurd (prp_eq hB (by omega) (by omega)) c29)
          refine lv_iinc (v := nI (j + 1)) (lv' := [(6, .int (nI (j + 1))), (0, .ref x), (1, .int yv), (2, .ref na), (3, .ref ma), (4, .int ((z 6 + sumF z 1 i) + (z (14 + 16 * i + 1)))), (5, .int (nI i))]) hx hb dL_agree_63 hl (k := 6) rfl (nI_1 _) (by decide) rfl (fun ls hl => ?_)
          refine lv_goto (tgt := 33) hx hb dL_agree_66 (by decide) ?_
          exact ih33 (j + 1) (by omega) _ _ hP hD hS ls (lv_sub hl [1, 2, 3, 4, 5, 6, 0] rfl)
      have hl := (congrArg (fun qv_ => lv_has ls 9 [(6, qv_), (4, .int ((z 6 + sumF z 1 i) + (z (14 + 16 * i + 1)))), (0, .ref x), (1, .int yv), (2, .ref na), (3, .ref ma), (5, .int (nI i))]) (show Value.int 0 = .int (nI 0) from congrArg Value.int (by rfl))).mp hl
      exact K33 11 0 (by omega) _ _ hP hD hS ls (lv_sub hl [2, 3, 4, 5, 1, 6, 0] rfl)
  have hl := (congrArg (fun qv_ => lv_has ls 9 [(5, .int 0), (4, qv_), (0, .ref x), (1, .int yv), (2, .ref na), (3, .ref ma)]) (show Value.int (z 6) = .int (z 6 + sumF z 1 0) from congrArg Value.int ((Int32.add_zero _).symm))).mp hl
  have hl := (congrArg (fun qv_ => lv_has ls 9 [(5, qv_), (4, .int (z 6 + sumF z 1 0)), (0, .ref x), (1, .int yv), (2, .ref na), (3, .ref ma)]) (show Value.int 0 = .int (nI 0) from congrArg Value.int (by rfl))).mp hl
  exact K8 n 0 (by omega) _ _ hP hD hS ls (lv_sub hl [2, 3, 4, 5, 1, 0] rfl)
end XL
