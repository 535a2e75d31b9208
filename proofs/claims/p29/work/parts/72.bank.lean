/-! Weeks, motions and votes of the law. -/
section XL
variable {l : Launch} {D : va_G} {cI cC cM cB cJ : ClassId} {ad t h : Nat → Nat} {ah : Nat → Nat → Nat} {zh : Nat → Nat → Int32} {x na ma : Nat} {sg r : Nat → Int32} {sz : Int32} {z zl : Nat → Int32} {wr : va_W}
set_option maxHeartbeats 4000000 in
set_option maxRecDepth 100000 in
theorem c_L_bank {k n nx kp : Nat} (hfl : l.stackTraces = false) (hk : k < 60) (hI : pI k n z nx kp) (h2 : 2 ≤ n) (xv yv : Int32) : zR l D (zT cI cC cM cB cJ) yL_bank cL_bank 13 (some .boolean) ({ frames := 7, cells := 1, slots := 6, locals := 113 } : Room) [.ref x, .int xv, .int yv, .ref na, .ref ma] (xw0 cI cC cM cB ad z t sg sz r x h ah (nI nx) (nI kp) zh (lwS cI na ma z kp wr)) (pG cI cC cM cB ad t sg sz r x h ah na ma wr (k + 1)) (some (.int 1)) 1 6 := by
  obtain ⟨hR, hn, hn2, hnx, hkp, hwk, hsum⟩ := id hI
  have hz : z 5 = nI n := hR.2.1
  have hB : hBool z := hR.2.2.1
  refine z_enterR (by decide) (Nat.le_of_ble_eq_true rfl) ?_
  intro p e s m below meth c A S hr hlocks hnm hJ hN hA hK hP hD hS ls hl
  obtain ⟨hx, hb, hml, hown, hts⟩ := id S
  have hl : lv_has ls 13 [(0, .ref x), (1, .int xv), (2, .int yv), (3, .ref na), (4, .ref ma)] := hl
  have hP : va_P D vwCl (xw0 cI cC cM cB ad z t sg sz r x h ah (nI nx) (nI kp) zh (lwS cI na ma z kp wr)) s.heap := hP
  have hD : va_D A (xw0 cI cC cM cB ad z t sg sz r x h ah (nI nx) (nI kp) zh (lwS cI na ma z kp wr)) := hD
  refine lv_iload_n hx hb dL_bank_0 rfl (lv_at hl 1 rfl) ?_
  refine lv_bipush (v := 6) hx hb dL_bank_1 (by decide) ?_
  refine z_callS1 (rest := []) S (c_L_at xv 6 (by decide)) qm_L_26 t_L_at ⟨Nat.le_of_ble_eq_true rfl, Nat.le_of_ble_eq_true rfl⟩ rfl rfl hN hK hP hD hS hA rfl hl.1 rfl (Nat.le_of_ble_eq_true rfl) dL_bank_3 ⟨Nat.le_of_ble_eq_true rfl, Nat.le_of_ble_eq_true rfl⟩ (fun H locs hP hD hS => ?_)
  refine lv_istore (lv' := [(5, .int (atP xv 6)), (0, .ref x), (1, .int xv), (2, .int yv), (3, .ref na), (4, .ref ma)]) hx hb dL_bank_6 hl (by decide) rfl (fun ls hl => ?_)
  refine lv_iload_n hx hb dL_bank_8 rfl (lv_at hl 3 rfl) ?_
  refine lv_aload_n hx hb dL_bank_9 rfl (lv_at hl 4 rfl) ?_
  refine lv_iconst (v := 0) hx hb dL_bank_10 (by decide) ?_
  refine va_iald hx hb hK hP (139 + (0)) 0 ((xw_r).trans (lw_0)) rfl (vp_in_nI (show 0 < 15 by decide) (by omega)) dL_bank_11 ?_
  refine z_top (v2 := .int (nI n)) (congrArg Value.int ((nf_0 rfl).trans (hz))) ?_
  refine z_callS1 (rest := []) S (c_L_at yv (nI n) (nI_n0 (show 0 < n by omega) (by omega))) qm_L_26 t_L_at ⟨Nat.le_of_ble_eq_true rfl, Nat.le_of_ble_eq_true rfl⟩ rfl rfl hN hK hP hD hS hA rfl hl.1 rfl (Nat.le_of_ble_eq_true rfl) dL_bank_12 ⟨Nat.le_of_ble_eq_true rfl, Nat.le_of_ble_eq_true rfl⟩ (fun H locs hP hD hS => ?_)
  obtain ⟨a, h_a, e_a⟩ := at_nat (x := yv) (N := n) (by omega) (by omega)
  refine z_top (v2 := .int (nI a)) (congrArg Value.int e_a) ?_
  refine lv_istore (lv' := [(6, .int (nI a)), (5, .int (atP xv 6)), (0, .ref x), (1, .int xv), (2, .int yv), (3, .ref na), (4, .ref ma)]) hx hb dL_bank_15 hl (by decide) rfl (fun ls hl => ?_)
  refine lv_iload hx hb dL_bank_17 (lv_at hl 1 rfl) ?_
  refine lv_iconst (v := 3) hx hb dL_bank_19 (by decide) ?_
  refine lv_icmp_ge (tgt := 341) hx hb dL_bank_20 (by decide) (fun c1 => ?_) (fun c1 => ?_)
  · have c1 := z_nlt c1
    rcases rOK_mot hR with hz10 | ⟨d, hd, hz10, hd1⟩
    · skip
      refine lv_aload_n hx hb dL_bank_341 rfl (lv_at hl 5 rfl) ?_
      refine lv_bipush (v := 11) hx hb dL_bank_342 (by decide) ?_
      refine va_iald hx hb hK hP (139 + (0)) 0 ((xw_r).trans (lw_0)) rfl (vp_in_nI (show 11 < 15 by decide) (by omega)) dL_bank_344 ?_
      refine z_top (v2 := .int (-1)) (congrArg Value.int ((nf_11 rfl).trans (hz10))) ?_
      refine lv_if_ge (tgt := 453) hx hb dL_bank_345 (by decide) (fun c2 => absurd c2 (by decide)) (fun c2 => ?_)
      have c2 := z_lt c2
      refine lv_iconst (v := 1) hx hb dL_bank_348 (by decide) ?_
      refine lv_iload_n hx hb dL_bank_349 rfl (lv_at hl 4 rfl) ?_
      refine lv_iconst (v := 3) hx hb dL_bank_350 (by decide) ?_
      refine lv_ishr hx hb dL_bank_351  ?_
      refine lv_bipush (v := 100) hx hb dL_bank_352 (by decide) ?_
      refine z_callS1 (rest := [.int 1]) S (c_L_at (yv >>> (3 &&& 31)) 100 (by decide)) qm_L_26 t_L_at ⟨Nat.le_of_ble_eq_true rfl, Nat.le_of_ble_eq_true rfl⟩ rfl rfl hN hK hP hD hS hA rfl hl.1 rfl (Nat.le_of_ble_eq_true rfl) dL_bank_354 ⟨Nat.le_of_ble_eq_true rfl, Nat.le_of_ble_eq_true rfl⟩ (fun H locs hP hD hS => ?_)
      obtain ⟨m_, h_m_, e_m_⟩ := at_nat (x := (yv >>> (3 &&& 31))) (N := 100) (by omega) (by omega)
      refine z_top (v2 := .int (nI m_)) (congrArg Value.int e_m_) ?_
      refine lv_iadd hx hb dL_bank_357  ?_
      refine z_top (v2 := .int (nI (1 + m_))) (congrArg Value.int (nI_add 1 m_)) ?_
      refine lv_istore (lv' := [(7, .int (nI (1 + m_))), (6, .int (nI a)), (5, .int (atP xv 6)), (0, .ref x), (1, .int xv), (2, .int yv), (3, .ref na), (4, .ref ma)]) hx hb dL_bank_358 hl (by decide) rfl (fun ls hl => ?_)
      refine lv_aload hx hb dL_bank_360 (lv_at hl 7 rfl) ?_
      refine lv_bipush (v := 16) hx hb dL_bank_362 (by decide) ?_
      refine lv_iload hx hb dL_bank_364 (lv_at hl 1 rfl) ?_
      refine lv_imul hx hb dL_bank_366 ?_
      refine z_top (v2 := .int (nI (16 * a))) (congrArg Value.int (pk_mul 16 a)) ?_
      refine va_iald hx hb hK hP (139 + (1)) 0 ((xw_r).trans (lw_1)) rfl (vp_in_nI (show 16 * a < 64 by omega) (by omega)) dL_bank_367 ?_
      refine z_top (v2 := .int (z (14 + 16 * a))) (congrArg Value.int ((lm_at rfl (show 16 * a < 64 by omega) (show 14 + (16 * a) = 14 + 16 * a by omega)).trans (rfl))) ?_
      refine lv_if_eq (tgt := 387) hx hb dL_bank_368 (by decide) (fun c3 => ?_) (fun c3 => ?_)
      · skip
        refine lv_aload_n hx hb dL_bank_387 rfl (lv_at hl 3 rfl) ?_
        refine z_callV1 (rest := []) S (c_X5_votesNeeded (n := n) (by omega) hz) qm_L_63 v_X5_votesNeeded ⟨Nat.le_of_ble_eq_true rfl, Nat.le_of_ble_eq_true rfl⟩ rfl rfl hN hK hP hD hS hA (22) (xw_x) rfl rfl hl.1 rfl (Nat.le_of_ble_eq_true rfl) dL_bank_388 ⟨Nat.le_of_ble_eq_true rfl, Nat.le_of_ble_eq_true rfl⟩ (fun H locs hP hD hS => ?_)
        refine lv_iconst (v := (-1)) hx hb dL_bank_391 (by decide) ?_
        refine lv_icmp_ne (tgt := 399) hx hb dL_bank_392 (by decide) (fun c4 => absurd c4 (not_not_intro (mis_none hz10))) (fun c4 => ?_)
        refine lv_iconst (v := 1) hx hb dL_bank_395 (by decide) ?_
        refine lv_goto (tgt := 400) hx hb dL_bank_396 (by decide) ?_
        refine W.widen (k := 1) (n := 6) (by decide) (by decide) ?_
        exact z_zretR hx hb hr hlocks hP hD hK hS (pg_id (pI_same hI (by omega))) rfl rfl dL_bank_400
      · skip
        refine lv_aload hx hb dL_bank_371 (lv_at hl 7 rfl) ?_
        refine lv_bipush (v := 16) hx hb dL_bank_373 (by decide) ?_
        refine lv_iload hx hb dL_bank_375 (lv_at hl 1 rfl) ?_
        refine lv_imul hx hb dL_bank_377 ?_
        refine z_top (v2 := .int (nI (16 * a))) (congrArg Value.int (pk_mul 16 a)) ?_
        refine lv_iconst (v := 1) hx hb dL_bank_378 (by decide) ?_
        refine lv_iadd hx hb dL_bank_379  ?_
        refine z_top (v2 := .int (nI (16 * a + 1))) (congrArg Value.int (nI_add (16 * a) 1)) ?_
        refine va_iald hx hb hK hP (139 + (1)) 0 ((xw_r).trans (lw_1)) rfl (vp_in_nI (show 16 * a + 1 < 64 by omega) (by omega)) dL_bank_380 ?_
        refine z_top (v2 := .int (z (14 + 16 * a + 1))) (congrArg Value.int ((lm_at rfl (show 16 * a + 1 < 64 by omega) (show 14 + (16 * a + 1) = 14 + 16 * a + 1 by omega)).trans (rfl))) ?_
        refine lv_ineg hx hb dL_bank_381 ?_
        refine lv_iload hx hb dL_bank_382 (lv_at hl 0 rfl) ?_
        refine lv_icmp_ge (tgt := 401) hx hb dL_bank_384 (by decide) (fun c5 => ?_) (fun c5 => ?_)
        · have c5 := z_nlt c5
          refine lv_aload_n hx hb dL_bank_401 rfl (lv_at hl 6 rfl) ?_
          refine lv_bipush (v := 11) hx hb dL_bank_402 (by decide) ?_
          refine lv_iload hx hb dL_bank_404 (lv_at hl 1 rfl) ?_
          refine z_iast (ws2 := xw0 cI cC cM cB ad z t sg sz r x h ah (nI nx) (nI kp) zh (lwS cI na ma (upd z 10 (nI a)) kp wr)) hx hb hK hP hD hS (139 + (0)) 0 ((xw_r).trans (lw_0)) rfl (vp_in_nI (show 11 < 15 by decide) (by omega)) dL_bank_406 ((xw_rs).trans (congrArg (fun w_ => xw0 cI cC cM cB ad z t sg sz r x h ah (nI nx) (nI kp) zh w_) (z_ixw (k := 11) rfl (by omega) (fun q_ => (lwS cI na ma z kp wr).set 0 (na, .inl (cI, 15, .inl (upd (nfn z kp) q_ (nI a))))) (lw_wx (by decide) (by decide) rfl)))) (fun H locs hP hD hS => ?_)
          refine lv_aload_n hx hb dL_bank_407 rfl (lv_at hl 6 rfl) ?_
          refine lv_bipush (v := 12) hx hb dL_bank_408 (by decide) ?_
          refine lv_iload hx hb dL_bank_410 (lv_at hl 0 rfl) ?_
          refine z_iast (ws2 := xw0 cI cC cM cB ad z t sg sz r x h ah (nI nx) (nI kp) zh (lwS cI na ma (upd (upd z 10 (nI a)) 11 (nI (1 + m_))) kp wr)) hx hb hK hP hD hS (139 + (0)) 0 ((xw_r).trans (lw_0)) rfl (vp_in_nI (show 12 < 15 by decide) (by omega)) dL_bank_412 ((xw_rs).trans (congrArg (fun w_ => xw0 cI cC cM cB ad z t sg sz r x h ah (nI nx) (nI kp) zh w_) (z_ixw (k := 12) rfl (by omega) (fun q_ => (lwS cI na ma (upd z 10 (nI a)) kp wr).set 0 (na, .inl (cI, 15, .inl (upd (nfn (upd z 10 (nI a)) kp) q_ (nI (1 + m_)))))) (lw_wx (by decide) (by decide) rfl)))) (fun H locs hP hD hS => ?_)
          refine lv_aload_n hx hb dL_bank_413 rfl (lv_at hl 6 rfl) ?_
          refine lv_iconst (v := 5) hx hb dL_bank_414 (by decide) ?_
          refine va_iald hx hb hK hP (139 + (0)) 0 ((xw_r).trans (lw_0)) rfl (vp_in_nI (show 5 < 15 by decide) (by omega)) dL_bank_415 ?_
          refine z_top (v2 := .int (nI kp)) (congrArg Value.int (nf_5 rfl)) ?_
          refine lv_bipush (v := 6) hx hb dL_bank_416 (by decide) ?_
          have J428_0 : ∀ (H : Heap) (locs : List Loc), va_P D vwCl (xw0 cI cC cM cB ad z t sg sz r x h ah (nI nx) (nI kp) zh (lwS cI na ma (upd (upd z 10 (nI a)) 11 (nI (1 + m_))) (min (kp + 1) 6) wr)) H → va_D A (xw0 cI cC cM cB ad z t sg sz r x h ah (nI nx) (nI kp) zh (lwS cI na ma (upd (upd z 10 (nI a)) 11 (nI (1 + m_))) (min (kp + 1) 6) wr)) → va_S A s.heap H locs → ∀ ls : Array Slot, lv_has ls 13 [(0, .ref x), (1, .int xv), (2, .int yv), (3, .ref na), (4, .ref ma), (5, .int (atP xv 6)), (6, .int (nI a)), (7, .int (nI (1 + m_)))] → W p l e ({ frames := 7, cells := 1, slots := 6, locals := 113 } : Room) s m ([.ref x, .int xv, .int yv, .ref na, .ref ma] : List Value).toArray below meth c H locs 0 0 (MQ below (zRQ D (zT cI cC cM cB cJ) (pG cI cC cM cB ad t sg sz r x h ah na ma wr (k + 1)) (some (.int 1)) A) ([.ref x, .int xv, .int yv, .ref na, .ref ma] : List Value).toArray s 1 6 A) (F0 m 428 ls []) := by
            intro H locs hP hD hS ls hl
            refine lv_aload_n hx hb dL_bank_428 rfl (lv_at hl 0 rfl) ?_
            refine lv_iload hx hb dL_bank_429 (lv_at hl 6 rfl) ?_
            refine lv_iload hx hb dL_bank_431 (lv_at hl 7 rfl) ?_
            have hM := c_X5_move (l := l) (D := D) (cI := cI) (cC := cC) (cM := cM) (cB := cB) (cJ := cJ) (ad := ad) (z := z) (t := t) (h := h) (ah := ah) (zh := zh) (x := x) (sg := sg) (r := r) (sz := sz) (nx := nx) (kp := kp) (wr := lwS cI na ma (upd (upd z 10 (nI a)) 11 (nI (1 + m_))) (min (kp + 1) 6) wr) hfl (n := n) (by omega) hz hnx hkp hB (nI a) (nI (1 + m_))
            refine z_callX (rest := []) S hM qm_L_66 v_X5_move ⟨Nat.le_of_ble_eq_true rfl, Nat.le_of_ble_eq_true rfl⟩ rfl rfl hJ hN hK hP hD hS hA 22 xw_x rfl rfl hl.1 rfl (Nat.le_of_ble_eq_true rfl) dL_bank_433 ⟨Nat.le_of_ble_eq_true rfl, Nat.le_of_ble_eq_true rfl⟩ (fun _ H locs hP hD hS => ?_) (fun q_ => absurd (kg_move (by omega) (by omega) (mn_1 (by omega)) ⟨c3, hz10, c5⟩) q_)
            refine W.eq (g2 := F0 m 436 ls [.int (cntT (upd (upd z 10 (nI a)) 11 (nI (1 + m_))) n - 1)]) rfl ?_
            refine lv_aload_n hx hb dL_bank_436 rfl (lv_at hl 3 rfl) ?_
            refine lv_aload hx hb dL_bank_437 (lv_at hl 4 rfl) ?_
            refine z_callS1 (rest := [.int (cntT (upd (upd z 10 (nI a)) 11 (nI (1 + m_))) n - 1)]) S (c_L_there (n := n) (by omega) ((upd_ne (by omega)).trans ((upd_ne (by omega)).trans (hz)))) qm_L_8 t_L_there ⟨Nat.le_of_ble_eq_true rfl, Nat.le_of_ble_eq_true rfl⟩ rfl rfl hN hK hP hD hS hA rfl hl.1 rfl (Nat.le_of_ble_eq_true rfl) dL_bank_439 ⟨Nat.le_of_ble_eq_true rfl, Nat.le_of_ble_eq_true rfl⟩ (fun H locs hP hD hS => ?_)
            refine lv_iconst (v := 1) hx hb dL_bank_442 (by decide) ?_
            refine lv_isub hx hb dL_bank_443  ?_
            refine lv_icmp_ne (tgt := 451) hx hb dL_bank_444 (by decide) (fun c6 => absurd c6 (not_not_intro (mv_ans hB (by omega)))) (fun c6 => ?_)
            refine lv_iconst (v := 1) hx hb dL_bank_447 (by decide) ?_
            refine lv_goto (tgt := 452) hx hb dL_bank_448 (by decide) ?_
            exact z_zretR hx hb hr hlocks hP hD hK hS (pg_mk (ps_move hI h2 (by omega) (mn_1 (by omega)) ⟨c3, hz10, c5⟩) (fun _ _ _ _ => rfl) (fun _ _ => rfl) rfl) rfl rfl dL_bank_452
          refine lv_icmp_ge (tgt := 428) hx hb dL_bank_418 (by decide) (fun c7 => ?_) (fun c7 => ?_)
          · have c7 := z_nlt c7
            have hP := va_P_eq (w2 := xw0 cI cC cM cB ad z t sg sz r x h ah (nI nx) (nI kp) zh (lwS cI na ma (upd (upd z 10 (nI a)) 11 (nI (1 + m_))) (min (kp + 1) 6) wr)) (congrArg (fun q_ => xw0 cI cC cM cB ad z t sg sz r x h ah (nI nx) (nI kp) zh (lwS cI na ma (upd (upd z 10 (nI a)) 11 (nI (1 + m_))) q_ wr)) (show kp = min (kp + 1) 6 by have : ¬ kp < 6 := fun q => c7 ((nI_lti (a := kp) (b := 6) (by omega) (by omega)).mpr q); omega)) hP
            have hD := va_D_eq (w2 := xw0 cI cC cM cB ad z t sg sz r x h ah (nI nx) (nI kp) zh (lwS cI na ma (upd (upd z 10 (nI a)) 11 (nI (1 + m_))) (min (kp + 1) 6) wr)) (congrArg (fun q_ => xw0 cI cC cM cB ad z t sg sz r x h ah (nI nx) (nI kp) zh (lwS cI na ma (upd (upd z 10 (nI a)) 11 (nI (1 + m_))) q_ wr)) (show kp = min (kp + 1) 6 by have : ¬ kp < 6 := fun q => c7 ((nI_lti (a := kp) (b := 6) (by omega) (by omega)).mpr q); omega)) hD
            exact J428_0 _ _ hP hD hS ls (lv_sub hl [3, 4, 5, 6, 7, 2, 1, 0] rfl)
          · have c7 := z_lt c7
            refine lv_aload_n hx hb dL_bank_421 rfl (lv_at hl 6 rfl) ?_
            refine lv_iconst (v := 5) hx hb dL_bank_422 (by decide) ?_
            refine lv_dup2_11 hx hb dL_bank_423 rfl rfl ?_
            refine va_iald hx hb hK hP (139 + (0)) 0 ((xw_r).trans (lw_0)) rfl (vp_in_nI (show 5 < 15 by decide) (by omega)) dL_bank_424 ?_
            refine z_top (v2 := .int (nI kp)) (congrArg Value.int (nf_5 rfl)) ?_
            refine lv_iconst (v := 1) hx hb dL_bank_425 (by decide) ?_
            refine lv_iadd hx hb dL_bank_426  ?_
            refine z_top (v2 := .int (nI (kp + 1))) (congrArg Value.int (nI_add kp 1)) ?_
            refine z_iast (ws2 := xw0 cI cC cM cB ad z t sg sz r x h ah (nI nx) (nI kp) zh (lwS cI na ma (upd (upd z 10 (nI a)) 11 (nI (1 + m_))) (kp + 1) wr)) hx hb hK hP hD hS (139 + (0)) 0 ((xw_r).trans (lw_0)) rfl (vp_in_nI (show 5 < 15 by decide) (by omega)) dL_bank_427 ((xw_rs).trans (congrArg (fun w_ => xw0 cI cC cM cB ad z t sg sz r x h ah (nI nx) (nI kp) zh w_) (z_ixw (k := 5) rfl (by omega) (fun q_ => (lwS cI na ma (upd (upd z 10 (nI a)) 11 (nI (1 + m_))) kp wr).set 0 (na, .inl (cI, 15, .inl (upd (nfn (upd (upd z 10 (nI a)) 11 (nI (1 + m_))) kp) q_ (nI (kp + 1)))))) lw_wk))) (fun H locs hP hD hS => ?_)
            have hP := va_P_eq (w2 := xw0 cI cC cM cB ad z t sg sz r x h ah (nI nx) (nI kp) zh (lwS cI na ma (upd (upd z 10 (nI a)) 11 (nI (1 + m_))) (min (kp + 1) 6) wr)) (congrArg (fun q_ => xw0 cI cC cM cB ad z t sg sz r x h ah (nI nx) (nI kp) zh (lwS cI na ma (upd (upd z 10 (nI a)) 11 (nI (1 + m_))) q_ wr)) (show kp + 1 = min (kp + 1) 6 by have := (nI_lti (a := kp) (b := 6) (by omega) (by omega)).mp c7; omega)) hP
            have hD := va_D_eq (w2 := xw0 cI cC cM cB ad z t sg sz r x h ah (nI nx) (nI kp) zh (lwS cI na ma (upd (upd z 10 (nI a)) 11 (nI (1 + m_))) (min (kp + 1) 6) wr)) (congrArg (fun q_ => xw0 cI cC cM cB ad z t sg sz r x h ah (nI nx) (nI kp) zh (lwS cI na ma (upd (upd z 10 (nI a)) 11 (nI (1 + m_))) q_ wr)) (show kp + 1 = min (kp + 1) 6 by have := (nI_lti (a := kp) (b := 6) (by omega) (by omega)).mp c7; omega)) hD
            exact J428_0 _ _ hP hD hS ls (lv_sub hl [3, 4, 5, 6, 7, 2, 1, 0] rfl)
        · have c5 := z_lt c5
          refine lv_aload_n hx hb dL_bank_387 rfl (lv_at hl 3 rfl) ?_
          refine z_callV1 (rest := []) S (c_X5_votesNeeded (n := n) (by omega) hz) qm_L_63 v_X5_votesNeeded ⟨Nat.le_of_ble_eq_true rfl, Nat.le_of_ble_eq_true rfl⟩ rfl rfl hN hK hP hD hS hA (22) (xw_x) rfl rfl hl.1 rfl (Nat.le_of_ble_eq_true rfl) dL_bank_388 ⟨Nat.le_of_ble_eq_true rfl, Nat.le_of_ble_eq_true rfl⟩ (fun H locs hP hD hS => ?_)
          refine lv_iconst (v := (-1)) hx hb dL_bank_391 (by decide) ?_
          refine lv_icmp_ne (tgt := 399) hx hb dL_bank_392 (by decide) (fun c8 => absurd c8 (not_not_intro (mis_none hz10))) (fun c8 => ?_)
          refine lv_iconst (v := 1) hx hb dL_bank_395 (by decide) ?_
          refine lv_goto (tgt := 400) hx hb dL_bank_396 (by decide) ?_
          refine W.widen (k := 1) (n := 6) (by decide) (by decide) ?_
          exact z_zretR hx hb hr hlocks hP hD hK hS (pg_id (pI_same hI (by omega))) rfl rfl dL_bank_400
    · skip
      refine lv_aload_n hx hb dL_bank_341 rfl (lv_at hl 5 rfl) ?_
      refine lv_bipush (v := 11) hx hb dL_bank_342 (by decide) ?_
      refine va_iald hx hb hK hP (139 + (0)) 0 ((xw_r).trans (lw_0)) rfl (vp_in_nI (show 11 < 15 by decide) (by omega)) dL_bank_344 ?_
      refine z_top (v2 := .int (nI d)) (congrArg Value.int ((nf_11 rfl).trans (hz10))) ?_
      refine lv_if_ge (tgt := 453) hx hb dL_bank_345 (by decide) (fun c9 => ?_) (fun c9 => absurd (nI_pos' (n := d) (by omega)) c9)
      have c9 := z_nlt c9
      refine lv_iload hx hb dL_bank_453 (lv_at hl 1 rfl) ?_
      refine lv_iconst (v := 3) hx hb dL_bank_455 (by decide) ?_
      refine lv_icmp_ne (tgt := 507) hx hb dL_bank_456 (by decide) (fun c10 => ?_) (fun c10 => ?_)
      · skip
        refine lv_aload hx hb dL_bank_507 (lv_at hl 6 rfl) ?_
        refine lv_bipush (v := 16) hx hb dL_bank_509 (by decide) ?_
        refine lv_iload hx hb dL_bank_511 (lv_at hl 0 rfl) ?_
        refine lv_imul hx hb dL_bank_513 ?_
        refine z_top (v2 := .int (nI (16 * a))) (congrArg Value.int (pk_mul 16 a)) ?_
        refine va_iald hx hb hK hP (139 + (1)) 0 ((xw_r).trans (lw_1)) rfl (vp_in_nI (show 16 * a < 64 by omega) (by omega)) dL_bank_514 ?_
        refine z_top (v2 := .int (z (14 + 16 * a))) (congrArg Value.int ((lm_at rfl (show 16 * a < 64 by omega) (show 14 + (16 * a) = 14 + 16 * a by omega)).trans (rfl))) ?_
        refine lv_if_eq (tgt := 545) hx hb dL_bank_515 (by decide) (fun c11 => ?_) (fun c11 => ?_)
        · skip
          refine lv_aload_n hx hb dL_bank_545 rfl (lv_at hl 2 rfl) ?_
          refine lv_iload hx hb dL_bank_546 (lv_at hl 0 rfl) ?_
          refine lv_bipush (v := 11) hx hb dL_bank_548 (by decide) ?_
          refine z_callV1 (rest := []) S (c_X5_member_m (n := n) (by omega) hz (j := a) (q_ := 11) (by omega) (by omega)) qm_L_72 v_X5_member ⟨Nat.le_of_ble_eq_true rfl, Nat.le_of_ble_eq_true rfl⟩ rfl rfl hN hK hP hD hS hA (22) (xw_x) rfl rfl hl.1 rfl (Nat.le_of_ble_eq_true rfl) dL_bank_550 ⟨Nat.le_of_ble_eq_true rfl, Nat.le_of_ble_eq_true rfl⟩ (fun H locs hP hD hS => ?_)
          refine lv_if_ne (tgt := 560) hx hb dL_bank_553 (by decide) (fun c12 => absurd c12 (not_not_intro (mb11 (fun q_ => q_.2.2.1 c11)))) (fun c12 => ?_)
          refine lv_iconst (v := 1) hx hb dL_bank_556 (by decide) ?_
          refine lv_goto (tgt := 561) hx hb dL_bank_557 (by decide) ?_
          refine W.widen (k := 1) (n := 6) (by decide) (by decide) ?_
          exact z_zretR hx hb hr hlocks hP hD hK hS (pg_id (pI_same hI (by omega))) rfl rfl dL_bank_561
        · skip
          refine lv_iload hx hb dL_bank_518 (lv_at hl 0 rfl) ?_
          refine lv_aload_n hx hb dL_bank_520 rfl (lv_at hl 5 rfl) ?_
          refine lv_bipush (v := 11) hx hb dL_bank_521 (by decide) ?_
          refine va_iald hx hb hK hP (139 + (0)) 0 ((xw_r).trans (lw_0)) rfl (vp_in_nI (show 11 < 15 by decide) (by omega)) dL_bank_523 ?_
          refine z_top (v2 := .int (nI d)) (congrArg Value.int ((nf_11 rfl).trans (hz10))) ?_
          refine lv_icmp_eq (tgt := 545) hx hb dL_bank_524 (by decide) (fun c13 => ?_) (fun c13 => ?_)
          · skip
            refine lv_aload_n hx hb dL_bank_545 rfl (lv_at hl 2 rfl) ?_
            refine lv_iload hx hb dL_bank_546 (lv_at hl 0 rfl) ?_
            refine lv_bipush (v := 11) hx hb dL_bank_548 (by decide) ?_
            refine z_callV1 (rest := []) S (c_X5_member_m (n := n) (by omega) hz (j := a) (q_ := 11) (by omega) (by omega)) qm_L_72 v_X5_member ⟨Nat.le_of_ble_eq_true rfl, Nat.le_of_ble_eq_true rfl⟩ rfl rfl hN hK hP hD hS hA (22) (xw_x) rfl rfl hl.1 rfl (Nat.le_of_ble_eq_true rfl) dL_bank_550 ⟨Nat.le_of_ble_eq_true rfl, Nat.le_of_ble_eq_true rfl⟩ (fun H locs hP hD hS => ?_)
            refine lv_if_ne (tgt := 560) hx hb dL_bank_553 (by decide) (fun c14 => absurd c14 (not_not_intro (mb11 (fun q_ => q_.2.1 (by rw [hz10]; exact c13))))) (fun c14 => ?_)
            refine lv_iconst (v := 1) hx hb dL_bank_556 (by decide) ?_
            refine lv_goto (tgt := 561) hx hb dL_bank_557 (by decide) ?_
            refine W.widen (k := 1) (n := 6) (by decide) (by decide) ?_
            exact z_zretR hx hb hr hlocks hP hD hK hS (pg_id (pI_same hI (by omega))) rfl rfl dL_bank_561
          · skip
            refine lv_aload_n hx hb dL_bank_527 rfl (lv_at hl 5 rfl) ?_
            refine lv_bipush (v := 13) hx hb dL_bank_528 (by decide) ?_
            refine va_iald hx hb hK hP (139 + (0)) 0 ((xw_r).trans (lw_0)) rfl (vp_in_nI (show 13 < 15 by decide) (by omega)) dL_bank_530 ?_
            refine z_top (v2 := .int (z 12)) (congrArg Value.int ((nf_13 rfl).trans (rfl))) ?_
            refine lv_aload_n hx hb dL_bank_531 rfl (lv_at hl 5 rfl) ?_
            refine lv_bipush (v := 14) hx hb dL_bank_532 (by decide) ?_
            refine va_iald hx hb hK hP (139 + (0)) 0 ((xw_r).trans (lw_0)) rfl (vp_in_nI (show 14 < 15 by decide) (by omega)) dL_bank_534 ?_
            refine z_top (v2 := .int (z 13)) (congrArg Value.int ((nf_14 rfl).trans (rfl))) ?_
            refine lv_ior hx hb dL_bank_535  ?_
            refine lv_iload hx hb dL_bank_536 (lv_at hl 0 rfl) ?_
            refine lv_ishr hx hb dL_bank_538  ?_
            refine lv_iconst (v := 1) hx hb dL_bank_539 (by decide) ?_
            refine lv_iand hx hb dL_bank_540  ?_
            refine lv_iconst (v := 1) hx hb dL_bank_541 (by decide) ?_
            refine lv_icmp_ne (tgt := 562) hx hb dL_bank_542 (by decide) (fun c15 => ?_) (fun c15 => ?_)
            · skip
              refine lv_iload_n hx hb dL_bank_562 rfl (lv_at hl 4 rfl) ?_
              refine lv_iconst (v := 3) hx hb dL_bank_563 (by decide) ?_
              refine lv_ishr hx hb dL_bank_564  ?_
              refine lv_iconst (v := 3) hx hb dL_bank_565 (by decide) ?_
              refine z_callS1 (rest := []) S (c_L_at (yv >>> (3 &&& 31)) 3 (by decide)) qm_L_26 t_L_at ⟨Nat.le_of_ble_eq_true rfl, Nat.le_of_ble_eq_true rfl⟩ rfl rfl hN hK hP hD hS hA rfl hl.1 rfl (Nat.le_of_ble_eq_true rfl) dL_bank_566 ⟨Nat.le_of_ble_eq_true rfl, Nat.le_of_ble_eq_true rfl⟩ (fun H locs hP hD hS => ?_)
              refine lv_if_le (tgt := 576) hx hb dL_bank_569 (by decide) (fun c16 => ?_) (fun c16 => ?_)
              · have c16 := z_nlt c16
                refine lv_iconst (v := 0) hx hb dL_bank_576 (by decide) ?_
                refine lv_istore (lv' := [(7, .int 0), (6, .int (nI a)), (5, .int (atP xv 6)), (0, .ref x), (1, .int xv), (2, .int yv), (3, .ref na), (4, .ref ma)]) hx hb dL_bank_577 hl (by decide) rfl (fun ls hl => ?_)
                refine lv_iload hx hb dL_bank_579 (lv_at hl 0 rfl) ?_
                refine lv_if_eq (tgt := 598) hx hb dL_bank_581 (by decide) (fun c17 => ?_) (fun c17 => absurd (by decide) c17)
                refine lv_aload_n hx hb dL_bank_598 rfl (lv_at hl 6 rfl) ?_
                refine lv_bipush (v := 14) hx hb dL_bank_599 (by decide) ?_
                refine lv_dup2_11 hx hb dL_bank_601 rfl rfl ?_
                refine va_iald hx hb hK hP (139 + (0)) 0 ((xw_r).trans (lw_0)) rfl (vp_in_nI (show 14 < 15 by decide) (by omega)) dL_bank_602 ?_
                refine z_top (v2 := .int (z 13)) (congrArg Value.int ((nf_14 rfl).trans (rfl))) ?_
                refine lv_iconst (v := 1) hx hb dL_bank_603 (by decide) ?_
                refine lv_iload hx hb dL_bank_604 (lv_at hl 1 rfl) ?_
                refine lv_ishl hx hb dL_bank_606  ?_
                refine lv_ior hx hb dL_bank_607  ?_
                refine z_iast (ws2 := xw0 cI cC cM cB ad z t sg sz r x h ah (nI nx) (nI kp) zh (lwS cI na ma (upd z 13 ((z 13) ||| (1 <<< ((nI a) &&& 31)))) kp wr)) hx hb hK hP hD hS (139 + (0)) 0 ((xw_r).trans (lw_0)) rfl (vp_in_nI (show 14 < 15 by decide) (by omega)) dL_bank_608 ((xw_rs).trans (congrArg (fun w_ => xw0 cI cC cM cB ad z t sg sz r x h ah (nI nx) (nI kp) zh w_) (z_ixw (k := 14) rfl (by omega) (fun q_ => (lwS cI na ma z kp wr).set 0 (na, .inl (cI, 15, .inl (upd (nfn z kp) q_ ((z 13) ||| (1 <<< ((nI a) &&& 31))))))) (lw_wx (by decide) (by decide) rfl)))) (fun H locs hP hD hS => ?_)
                refine lv_aload_n hx hb dL_bank_609 rfl (lv_at hl 6 rfl) ?_
                refine lv_iconst (v := 5) hx hb dL_bank_610 (by decide) ?_
                refine va_iald hx hb hK hP (139 + (0)) 0 ((xw_r).trans (lw_0)) rfl (vp_in_nI (show 5 < 15 by decide) (by omega)) dL_bank_611 ?_
                refine z_top (v2 := .int (nI kp)) (congrArg Value.int (nf_5 rfl)) ?_
                refine lv_bipush (v := 6) hx hb dL_bank_612 (by decide) ?_
                have J624_0 : ∀ (H : Heap) (locs : List Loc), va_P D vwCl (xw0 cI cC cM cB ad z t sg sz r x h ah (nI nx) (nI kp) zh (lwS cI na ma (upd z 13 ((z 13) ||| (1 <<< ((nI a) &&& 31)))) (min (kp + 1) 6) wr)) H → va_D A (xw0 cI cC cM cB ad z t sg sz r x h ah (nI nx) (nI kp) zh (lwS cI na ma (upd z 13 ((z 13) ||| (1 <<< ((nI a) &&& 31)))) (min (kp + 1) 6) wr)) → va_S A s.heap H locs → ∀ ls : Array Slot, lv_has ls 13 [(0, .ref x), (1, .int xv), (2, .int yv), (3, .ref na), (4, .ref ma), (5, .int (atP xv 6)), (6, .int (nI a)), (7, .int 0)] → W p l e ({ frames := 7, cells := 1, slots := 6, locals := 113 } : Room) s m ([.ref x, .int xv, .int yv, .ref na, .ref ma] : List Value).toArray below meth c H locs 0 0 (MQ below (zRQ D (zT cI cC cM cB cJ) (pG cI cC cM cB ad t sg sz r x h ah na ma wr (k + 1)) (some (.int 1)) A) ([.ref x, .int xv, .int yv, .ref na, .ref ma] : List Value).toArray s 1 6 A) (F0 m 624 ls []) := by
                  intro H locs hP hD hS ls hl
                  refine lv_aload_n hx hb dL_bank_624 rfl (lv_at hl 0 rfl) ?_
                  refine lv_iload hx hb dL_bank_625 (lv_at hl 6 rfl) ?_
                  refine lv_iload hx hb dL_bank_627 (lv_at hl 7 rfl) ?_
                  have hM := c_X5_vote_b (l := l) (D := D) (cI := cI) (cC := cC) (cM := cM) (cB := cB) (cJ := cJ) (ad := ad) (z := z) (t := t) (h := h) (ah := ah) (zh := zh) (x := x) (sg := sg) (r := r) (sz := sz) (nx := nx) (kp := kp) (wr := lwS cI na ma (upd z 13 ((z 13) ||| (1 <<< ((nI a) &&& 31)))) (min (kp + 1) 6) wr) hfl (n := n) (by omega) hz hnx hkp hB hd hz10 (nI a) 0
                  rw [cl_nI (show a < 2 ^ 31 by omega)] at hM
                  refine z_callX (rest := []) S hM qm_L_75 v_X5_vote ⟨Nat.le_of_ble_eq_true rfl, Nat.le_of_ble_eq_true rfl⟩ rfl rfl hJ hN hK hP hD hS hA 22 xw_x rfl rfl hl.1 rfl (Nat.le_of_ble_eq_true rfl) dL_bank_629 ⟨Nat.le_of_ble_eq_true rfl, Nat.le_of_ble_eq_true rfl⟩ (fun _ H locs hP hD hS => ?_) (fun q_ => absurd (kg_vote (by omega) (by omega) ⟨by rw [hz10]; exact nI_nm1 (by omega), by rw [hz10]; exact c13, c11, vt0 hR (by omega) c15⟩) q_)
                  refine W.eq (g2 := F0 m 632 ls [.int (setR (upd z (142 + a) (if (0 : Int32) = 0 then 2 else 1)) n)]) rfl ?_
                  refine lv_aload_n hx hb dL_bank_632 rfl (lv_at hl 3 rfl) ?_
                  refine lv_aload hx hb dL_bank_633 (lv_at hl 4 rfl) ?_
                  refine z_callS1 (rest := [.int (setR (upd z (142 + a) (if (0 : Int32) = 0 then 2 else 1)) n)]) S (c_L_look (n := n) (by omega) ((upd_ne (by omega)).trans (hz)) (d := d) (by omega) ((upd_ne (by omega)).trans (hz10))) qm_L_48 t_L_look ⟨Nat.le_of_ble_eq_true rfl, Nat.le_of_ble_eq_true rfl⟩ rfl rfl hN hK hP hD hS hA rfl hl.1 rfl (Nat.le_of_ble_eq_true rfl) dL_bank_635 ⟨Nat.le_of_ble_eq_true rfl, Nat.le_of_ble_eq_true rfl⟩ (fun H locs hP hD hS => ?_)
                  obtain ⟨z2_, q1_, q2_, q3_, q4_⟩ := ps_vote0 hk hI (by omega) (show a < n by omega) hd hz10 ⟨by rw [hz10]; exact nI_nm1 (by omega), by rw [hz10]; exact c13, c11, vt0 hR (by omega) c15⟩
                  refine lv_icmp_ne (tgt := 645) hx hb dL_bank_638 (by decide) (fun c18 => absurd c18 (not_not_intro q4_)) (fun c18 => ?_)
                  refine lv_iconst (v := 1) hx hb dL_bank_641 (by decide) ?_
                  refine lv_goto (tgt := 646) hx hb dL_bank_642 (by decide) ?_
                  exact z_zretR hx hb hr hlocks hP hD hK hS (pg_mk q1_ q2_ q3_ rfl) rfl rfl dL_bank_646
                refine lv_icmp_ge (tgt := 624) hx hb dL_bank_614 (by decide) (fun c19 => ?_) (fun c19 => ?_)
                · have c19 := z_nlt c19
                  have hP := va_P_eq (w2 := xw0 cI cC cM cB ad z t sg sz r x h ah (nI nx) (nI kp) zh (lwS cI na ma (upd z 13 ((z 13) ||| (1 <<< ((nI a) &&& 31)))) (min (kp + 1) 6) wr)) (congrArg (fun q_ => xw0 cI cC cM cB ad z t sg sz r x h ah (nI nx) (nI kp) zh (lwS cI na ma (upd z 13 ((z 13) ||| (1 <<< ((nI a) &&& 31)))) q_ wr)) (show kp = min (kp + 1) 6 by have : ¬ kp < 6 := fun q => c19 ((nI_lti (a := kp) (b := 6) (by omega) (by omega)).mpr q); omega)) hP
                  have hD := va_D_eq (w2 := xw0 cI cC cM cB ad z t sg sz r x h ah (nI nx) (nI kp) zh (lwS cI na ma (upd z 13 ((z 13) ||| (1 <<< ((nI a) &&& 31)))) (min (kp + 1) 6) wr)) (congrArg (fun q_ => xw0 cI cC cM cB ad z t sg sz r x h ah (nI nx) (nI kp) zh (lwS cI na ma (upd z 13 ((z 13) ||| (1 <<< ((nI a) &&& 31)))) q_ wr)) (show kp = min (kp + 1) 6 by have : ¬ kp < 6 := fun q => c19 ((nI_lti (a := kp) (b := 6) (by omega) (by omega)).mpr q); omega)) hD
                  exact J624_0 _ _ hP hD hS ls (lv_sub hl [3, 4, 5, 6, 7, 2, 1, 0] rfl)
                · have c19 := z_lt c19
                  refine lv_aload_n hx hb dL_bank_617 rfl (lv_at hl 6 rfl) ?_
                  refine lv_iconst (v := 5) hx hb dL_bank_618 (by decide) ?_
                  refine lv_dup2_11 hx hb dL_bank_619 rfl rfl ?_
                  refine va_iald hx hb hK hP (139 + (0)) 0 ((xw_r).trans (lw_0)) rfl (vp_in_nI (show 5 < 15 by decide) (by omega)) dL_bank_620 ?_
                  refine z_top (v2 := .int (nI kp)) (congrArg Value.int (nf_5 rfl)) ?_
                  refine lv_iconst (v := 1) hx hb dL_bank_621 (by decide) ?_
                  refine lv_iadd hx hb dL_bank_622  ?_
                  refine z_top (v2 := .int (nI (kp + 1))) (congrArg Value.int (nI_add kp 1)) ?_
                  refine z_iast (ws2 := xw0 cI cC cM cB ad z t sg sz r x h ah (nI nx) (nI kp) zh (lwS cI na ma (upd z 13 ((z 13) ||| (1 <<< ((nI a) &&& 31)))) (kp + 1) wr)) hx hb hK hP hD hS (139 + (0)) 0 ((xw_r).trans (lw_0)) rfl (vp_in_nI (show 5 < 15 by decide) (by omega)) dL_bank_623 ((xw_rs).trans (congrArg (fun w_ => xw0 cI cC cM cB ad z t sg sz r x h ah (nI nx) (nI kp) zh w_) (z_ixw (k := 5) rfl (by omega) (fun q_ => (lwS cI na ma (upd z 13 ((z 13) ||| (1 <<< ((nI a) &&& 31)))) kp wr).set 0 (na, .inl (cI, 15, .inl (upd (nfn (upd z 13 ((z 13) ||| (1 <<< ((nI a) &&& 31)))) kp) q_ (nI (kp + 1)))))) lw_wk))) (fun H locs hP hD hS => ?_)
                  have hP := va_P_eq (w2 := xw0 cI cC cM cB ad z t sg sz r x h ah (nI nx) (nI kp) zh (lwS cI na ma (upd z 13 ((z 13) ||| (1 <<< ((nI a) &&& 31)))) (min (kp + 1) 6) wr)) (congrArg (fun q_ => xw0 cI cC cM cB ad z t sg sz r x h ah (nI nx) (nI kp) zh (lwS cI na ma (upd z 13 ((z 13) ||| (1 <<< ((nI a) &&& 31)))) q_ wr)) (show kp + 1 = min (kp + 1) 6 by have := (nI_lti (a := kp) (b := 6) (by omega) (by omega)).mp c19; omega)) hP
                  have hD := va_D_eq (w2 := xw0 cI cC cM cB ad z t sg sz r x h ah (nI nx) (nI kp) zh (lwS cI na ma (upd z 13 ((z 13) ||| (1 <<< ((nI a) &&& 31)))) (min (kp + 1) 6) wr)) (congrArg (fun q_ => xw0 cI cC cM cB ad z t sg sz r x h ah (nI nx) (nI kp) zh (lwS cI na ma (upd z 13 ((z 13) ||| (1 <<< ((nI a) &&& 31)))) q_ wr)) (show kp + 1 = min (kp + 1) 6 by have := (nI_lti (a := kp) (b := 6) (by omega) (by omega)).mp c19; omega)) hD
                  exact J624_0 _ _ hP hD hS ls (lv_sub hl [3, 4, 5, 6, 7, 2, 1, 0] rfl)
              · have c16 := z_lt c16
                refine lv_iconst (v := 1) hx hb dL_bank_572 (by decide) ?_
                refine lv_goto (tgt := 577) hx hb dL_bank_573 (by decide) ?_
                refine lv_istore (lv' := [(7, .int 1), (6, .int (nI a)), (5, .int (atP xv 6)), (0, .ref x), (1, .int xv), (2, .int yv), (3, .ref na), (4, .ref ma)]) hx hb dL_bank_577 hl (by decide) rfl (fun ls hl => ?_)
                refine lv_iload hx hb dL_bank_579 (lv_at hl 0 rfl) ?_
                refine lv_if_eq (tgt := 598) hx hb dL_bank_581 (by decide) (fun c20 => absurd c20 (by decide)) (fun c20 => ?_)
                refine lv_aload_n hx hb dL_bank_584 rfl (lv_at hl 6 rfl) ?_
                refine lv_bipush (v := 13) hx hb dL_bank_585 (by decide) ?_
                refine lv_dup2_11 hx hb dL_bank_587 rfl rfl ?_
                refine va_iald hx hb hK hP (139 + (0)) 0 ((xw_r).trans (lw_0)) rfl (vp_in_nI (show 13 < 15 by decide) (by omega)) dL_bank_588 ?_
                refine z_top (v2 := .int (z 12)) (congrArg Value.int ((nf_13 rfl).trans (rfl))) ?_
                refine lv_iconst (v := 1) hx hb dL_bank_589 (by decide) ?_
                refine lv_iload hx hb dL_bank_590 (lv_at hl 1 rfl) ?_
                refine lv_ishl hx hb dL_bank_592  ?_
                refine lv_ior hx hb dL_bank_593  ?_
                refine z_iast (ws2 := xw0 cI cC cM cB ad z t sg sz r x h ah (nI nx) (nI kp) zh (lwS cI na ma (upd z 12 ((z 12) ||| (1 <<< ((nI a) &&& 31)))) kp wr)) hx hb hK hP hD hS (139 + (0)) 0 ((xw_r).trans (lw_0)) rfl (vp_in_nI (show 13 < 15 by decide) (by omega)) dL_bank_594 ((xw_rs).trans (congrArg (fun w_ => xw0 cI cC cM cB ad z t sg sz r x h ah (nI nx) (nI kp) zh w_) (z_ixw (k := 13) rfl (by omega) (fun q_ => (lwS cI na ma z kp wr).set 0 (na, .inl (cI, 15, .inl (upd (nfn z kp) q_ ((z 12) ||| (1 <<< ((nI a) &&& 31))))))) (lw_wx (by decide) (by decide) rfl)))) (fun H locs hP hD hS => ?_)
                refine lv_goto (tgt := 609) hx hb dL_bank_595 (by decide) ?_
                refine lv_aload_n hx hb dL_bank_609 rfl (lv_at hl 6 rfl) ?_
                refine lv_iconst (v := 5) hx hb dL_bank_610 (by decide) ?_
                refine va_iald hx hb hK hP (139 + (0)) 0 ((xw_r).trans (lw_0)) rfl (vp_in_nI (show 5 < 15 by decide) (by omega)) dL_bank_611 ?_
                refine z_top (v2 := .int (nI kp)) (congrArg Value.int (nf_5 rfl)) ?_
                refine lv_bipush (v := 6) hx hb dL_bank_612 (by decide) ?_
                have J624_0 : ∀ (H : Heap) (locs : List Loc), va_P D vwCl (xw0 cI cC cM cB ad z t sg sz r x h ah (nI nx) (nI kp) zh (lwS cI na ma (upd z 12 ((z 12) ||| (1 <<< ((nI a) &&& 31)))) (min (kp + 1) 6) wr)) H → va_D A (xw0 cI cC cM cB ad z t sg sz r x h ah (nI nx) (nI kp) zh (lwS cI na ma (upd z 12 ((z 12) ||| (1 <<< ((nI a) &&& 31)))) (min (kp + 1) 6) wr)) → va_S A s.heap H locs → ∀ ls : Array Slot, lv_has ls 13 [(0, .ref x), (1, .int xv), (2, .int yv), (3, .ref na), (4, .ref ma), (5, .int (atP xv 6)), (6, .int (nI a)), (7, .int 1)] → W p l e ({ frames := 7, cells := 1, slots := 6, locals := 113 } : Room) s m ([.ref x, .int xv, .int yv, .ref na, .ref ma] : List Value).toArray below meth c H locs 0 0 (MQ below (zRQ D (zT cI cC cM cB cJ) (pG cI cC cM cB ad t sg sz r x h ah na ma wr (k + 1)) (some (.int 1)) A) ([.ref x, .int xv, .int yv, .ref na, .ref ma] : List Value).toArray s 1 6 A) (F0 m 624 ls []) := by
                  intro H locs hP hD hS ls hl
                  refine lv_aload_n hx hb dL_bank_624 rfl (lv_at hl 0 rfl) ?_
                  refine lv_iload hx hb dL_bank_625 (lv_at hl 6 rfl) ?_
                  refine lv_iload hx hb dL_bank_627 (lv_at hl 7 rfl) ?_
                  have hM := c_X5_vote_b (l := l) (D := D) (cI := cI) (cC := cC) (cM := cM) (cB := cB) (cJ := cJ) (ad := ad) (z := z) (t := t) (h := h) (ah := ah) (zh := zh) (x := x) (sg := sg) (r := r) (sz := sz) (nx := nx) (kp := kp) (wr := lwS cI na ma (upd z 12 ((z 12) ||| (1 <<< ((nI a) &&& 31)))) (min (kp + 1) 6) wr) hfl (n := n) (by omega) hz hnx hkp hB hd hz10 (nI a) 1
                  rw [cl_nI (show a < 2 ^ 31 by omega)] at hM
                  refine z_callX (rest := []) S hM qm_L_75 v_X5_vote ⟨Nat.le_of_ble_eq_true rfl, Nat.le_of_ble_eq_true rfl⟩ rfl rfl hJ hN hK hP hD hS hA 22 xw_x rfl rfl hl.1 rfl (Nat.le_of_ble_eq_true rfl) dL_bank_629 ⟨Nat.le_of_ble_eq_true rfl, Nat.le_of_ble_eq_true rfl⟩ (fun _ H locs hP hD hS => ?_) (fun q_ => absurd (kg_vote (by omega) (by omega) ⟨by rw [hz10]; exact nI_nm1 (by omega), by rw [hz10]; exact c13, c11, vt0 hR (by omega) c15⟩) q_)
                  refine W.eq (g2 := F0 m 632 ls [.int (setR (upd z (142 + a) (if (1 : Int32) = 0 then 2 else 1)) n)]) rfl ?_
                  refine lv_aload_n hx hb dL_bank_632 rfl (lv_at hl 3 rfl) ?_
                  refine lv_aload hx hb dL_bank_633 (lv_at hl 4 rfl) ?_
                  refine z_callS1 (rest := [.int (setR (upd z (142 + a) (if (1 : Int32) = 0 then 2 else 1)) n)]) S (c_L_look (n := n) (by omega) ((upd_ne (by omega)).trans (hz)) (d := d) (by omega) ((upd_ne (by omega)).trans (hz10))) qm_L_48 t_L_look ⟨Nat.le_of_ble_eq_true rfl, Nat.le_of_ble_eq_true rfl⟩ rfl rfl hN hK hP hD hS hA rfl hl.1 rfl (Nat.le_of_ble_eq_true rfl) dL_bank_635 ⟨Nat.le_of_ble_eq_true rfl, Nat.le_of_ble_eq_true rfl⟩ (fun H locs hP hD hS => ?_)
                  obtain ⟨z2_, q1_, q2_, q3_, q4_⟩ := ps_vote1 hk hI (by omega) (show a < n by omega) hd hz10 ⟨by rw [hz10]; exact nI_nm1 (by omega), by rw [hz10]; exact c13, c11, vt0 hR (by omega) c15⟩
                  refine lv_icmp_ne (tgt := 645) hx hb dL_bank_638 (by decide) (fun c21 => absurd c21 (not_not_intro q4_)) (fun c21 => ?_)
                  refine lv_iconst (v := 1) hx hb dL_bank_641 (by decide) ?_
                  refine lv_goto (tgt := 646) hx hb dL_bank_642 (by decide) ?_
                  exact z_zretR hx hb hr hlocks hP hD hK hS (pg_mk q1_ q2_ q3_ rfl) rfl rfl dL_bank_646
                refine lv_icmp_ge (tgt := 624) hx hb dL_bank_614 (by decide) (fun c22 => ?_) (fun c22 => ?_)
                · have c22 := z_nlt c22
                  have hP := va_P_eq (w2 := xw0 cI cC cM cB ad z t sg sz r x h ah (nI nx) (nI kp) zh (lwS cI na ma (upd z 12 ((z 12) ||| (1 <<< ((nI a) &&& 31)))) (min (kp + 1) 6) wr)) (congrArg (fun q_ => xw0 cI cC cM cB ad z t sg sz r x h ah (nI nx) (nI kp) zh (lwS cI na ma (upd z 12 ((z 12) ||| (1 <<< ((nI a) &&& 31)))) q_ wr)) (show kp = min (kp + 1) 6 by have : ¬ kp < 6 := fun q => c22 ((nI_lti (a := kp) (b := 6) (by omega) (by omega)).mpr q); omega)) hP
                  have hD := va_D_eq (w2 := xw0 cI cC cM cB ad z t sg sz r x h ah (nI nx) (nI kp) zh (lwS cI na ma (upd z 12 ((z 12) ||| (1 <<< ((nI a) &&& 31)))) (min (kp + 1) 6) wr)) (congrArg (fun q_ => xw0 cI cC cM cB ad z t sg sz r x h ah (nI nx) (nI kp) zh (lwS cI na ma (upd z 12 ((z 12) ||| (1 <<< ((nI a) &&& 31)))) q_ wr)) (show kp = min (kp + 1) 6 by have : ¬ kp < 6 := fun q => c22 ((nI_lti (a := kp) (b := 6) (by omega) (by omega)).mpr q); omega)) hD
                  exact J624_0 _ _ hP hD hS ls (lv_sub hl [3, 4, 5, 6, 7, 2, 1, 0] rfl)
                · have c22 := z_lt c22
                  refine lv_aload_n hx hb dL_bank_617 rfl (lv_at hl 6 rfl) ?_
                  refine lv_iconst (v := 5) hx hb dL_bank_618 (by decide) ?_
                  refine lv_dup2_11 hx hb dL_bank_619 rfl rfl ?_
                  refine va_iald hx hb hK hP (139 + (0)) 0 ((xw_r).trans (lw_0)) rfl (vp_in_nI (show 5 < 15 by decide) (by omega)) dL_bank_620 ?_
                  refine z_top (v2 := .int (nI kp)) (congrArg Value.int (nf_5 rfl)) ?_
                  refine lv_iconst (v := 1) hx hb dL_bank_621 (by decide) ?_
                  refine lv_iadd hx hb dL_bank_622  ?_
                  refine z_top (v2 := .int (nI (kp + 1))) (congrArg Value.int (nI_add kp 1)) ?_
                  refine z_iast (ws2 := xw0 cI cC cM cB ad z t sg sz r x h ah (nI nx) (nI kp) zh (lwS cI na ma (upd z 12 ((z 12) ||| (1 <<< ((nI a) &&& 31)))) (kp + 1) wr)) hx hb hK hP hD hS (139 + (0)) 0 ((xw_r).trans (lw_0)) rfl (vp_in_nI (show 5 < 15 by decide) (by omega)) dL_bank_623 ((xw_rs).trans (congrArg (fun w_ => xw0 cI cC cM cB ad z t sg sz r x h ah (nI nx) (nI kp) zh w_) (z_ixw (k := 5) rfl (by omega) (fun q_ => (lwS cI na ma (upd z 12 ((z 12) ||| (1 <<< ((nI a) &&& 31)))) kp wr).set 0 (na, .inl (cI, 15, .inl (upd (nfn (upd z 12 ((z 12) ||| (1 <<< ((nI a) &&& 31)))) kp) q_ (nI (kp + 1)))))) lw_wk))) (fun H locs hP hD hS => ?_)
                  have hP := va_P_eq (w2 := xw0 cI cC cM cB ad z t sg sz r x h ah (nI nx) (nI kp) zh (lwS cI na ma (upd z 12 ((z 12) ||| (1 <<< ((nI a) &&& 31)))) (min (kp + 1) 6) wr)) (congrArg (fun q_ => xw0 cI cC cM cB ad z t sg sz r x h ah (nI nx) (nI kp) zh (lwS cI na ma (upd z 12 ((z 12) ||| (1 <<< ((nI a) &&& 31)))) q_ wr)) (show kp + 1 = min (kp + 1) 6 by have := (nI_lti (a := kp) (b := 6) (by omega) (by omega)).mp c22; omega)) hP
                  have hD := va_D_eq (w2 := xw0 cI cC cM cB ad z t sg sz r x h ah (nI nx) (nI kp) zh (lwS cI na ma (upd z 12 ((z 12) ||| (1 <<< ((nI a) &&& 31)))) (min (kp + 1) 6) wr)) (congrArg (fun q_ => xw0 cI cC cM cB ad z t sg sz r x h ah (nI nx) (nI kp) zh (lwS cI na ma (upd z 12 ((z 12) ||| (1 <<< ((nI a) &&& 31)))) q_ wr)) (show kp + 1 = min (kp + 1) 6 by have := (nI_lti (a := kp) (b := 6) (by omega) (by omega)).mp c22; omega)) hD
                  exact J624_0 _ _ hP hD hS ls (lv_sub hl [3, 4, 5, 6, 7, 2, 1, 0] rfl)
            · skip
              refine lv_aload_n hx hb dL_bank_545 rfl (lv_at hl 2 rfl) ?_
              refine lv_iload hx hb dL_bank_546 (lv_at hl 0 rfl) ?_
              refine lv_bipush (v := 11) hx hb dL_bank_548 (by decide) ?_
              refine z_callV1 (rest := []) S (c_X5_member_m (n := n) (by omega) hz (j := a) (q_ := 11) (by omega) (by omega)) qm_L_72 v_X5_member ⟨Nat.le_of_ble_eq_true rfl, Nat.le_of_ble_eq_true rfl⟩ rfl rfl hN hK hP hD hS hA (22) (xw_x) rfl rfl hl.1 rfl (Nat.le_of_ble_eq_true rfl) dL_bank_550 ⟨Nat.le_of_ble_eq_true rfl, Nat.le_of_ble_eq_true rfl⟩ (fun H locs hP hD hS => ?_)
              refine lv_if_ne (tgt := 560) hx hb dL_bank_553 (by decide) (fun c23 => absurd c23 (not_not_intro (mb11 (vt1 hR (by omega) c15)))) (fun c23 => ?_)
              refine lv_iconst (v := 1) hx hb dL_bank_556 (by decide) ?_
              refine lv_goto (tgt := 561) hx hb dL_bank_557 (by decide) ?_
              refine W.widen (k := 1) (n := 6) (by decide) (by decide) ?_
              exact z_zretR hx hb hr hlocks hP hD hK hS (pg_id (pI_same hI (by omega))) rfl rfl dL_bank_561
      · skip
        refine lv_aload_n hx hb dL_bank_459 rfl (lv_at hl 5 rfl) ?_
        refine lv_bipush (v := 13) hx hb dL_bank_460 (by decide) ?_
        refine va_iald hx hb hK hP (139 + (0)) 0 ((xw_r).trans (lw_0)) rfl (vp_in_nI (show 13 < 15 by decide) (by omega)) dL_bank_462 ?_
        refine z_top (v2 := .int (z 12)) (congrArg Value.int ((nf_13 rfl).trans (rfl))) ?_
        refine lv_aload_n hx hb dL_bank_463 rfl (lv_at hl 5 rfl) ?_
        refine lv_bipush (v := 14) hx hb dL_bank_464 (by decide) ?_
        refine va_iald hx hb hK hP (139 + (0)) 0 ((xw_r).trans (lw_0)) rfl (vp_in_nI (show 14 < 15 by decide) (by omega)) dL_bank_466 ?_
        refine z_top (v2 := .int (z 13)) (congrArg Value.int ((nf_14 rfl).trans (rfl))) ?_
        refine lv_ior hx hb dL_bank_467  ?_
        refine z_callS1 (rest := []) S (c_L_ones ((z 12) ||| (z 13))) qm_L_14 t_L_ones ⟨Nat.le_of_ble_eq_true rfl, Nat.le_of_ble_eq_true rfl⟩ rfl rfl hN hK hP hD hS hA rfl hl.1 rfl (Nat.le_of_ble_eq_true rfl) dL_bank_468 ⟨Nat.le_of_ble_eq_true rfl, Nat.le_of_ble_eq_true rfl⟩ (fun H locs hP hD hS => ?_)
        refine lv_istore (lv' := [(7, .int (oneP ((z 12) ||| (z 13)) 4)), (6, .int (nI a)), (5, .int (atP xv 6)), (0, .ref x), (1, .int xv), (2, .int yv), (3, .ref na), (4, .ref ma)]) hx hb dL_bank_471 hl (by decide) rfl (fun ls hl => ?_)
        refine lv_aload_n hx hb dL_bank_473 rfl (lv_at hl 6 rfl) ?_
        refine z_callS0 (rest := []) S (c_L_end ) qm_L_18 t_L_end ⟨Nat.le_of_ble_eq_true rfl, Nat.le_of_ble_eq_true rfl⟩ rfl rfl hN hK hP hD hS hA rfl hl.1 rfl (Nat.le_of_ble_eq_true rfl) dL_bank_474 ⟨Nat.le_of_ble_eq_true rfl, Nat.le_of_ble_eq_true rfl⟩ (fun H locs hP hD hS => ?_)
        refine lv_aload_n hx hb dL_bank_477 rfl (lv_at hl 6 rfl) ?_
        refine lv_iconst (v := 5) hx hb dL_bank_478 (by decide) ?_
        refine va_iald hx hb hK hP (139 + (0)) 0 ((xw_r).trans (lw_0)) rfl (vp_in_nI (show 5 < 15 by decide) (by omega)) dL_bank_479 ?_
        refine z_top (v2 := .int (nI kp)) (congrArg Value.int (nf_5 rfl)) ?_
        refine lv_bipush (v := 6) hx hb dL_bank_480 (by decide) ?_
        have J492_0 : ∀ (H : Heap) (locs : List Loc), va_P D vwCl (xw0 cI cC cM cB ad z t sg sz r x h ah (nI nx) (nI kp) zh (lwS cI na ma (endZ z) (min (kp + 1) 6) wr)) H → va_D A (xw0 cI cC cM cB ad z t sg sz r x h ah (nI nx) (nI kp) zh (lwS cI na ma (endZ z) (min (kp + 1) 6) wr)) → va_S A s.heap H locs → ∀ ls : Array Slot, lv_has ls 13 [(0, .ref x), (1, .int xv), (2, .int yv), (3, .ref na), (4, .ref ma), (5, .int (atP xv 6)), (6, .int (nI a)), (7, .int (oneP ((z 12) ||| (z 13)) 4))] → W p l e ({ frames := 7, cells := 1, slots := 6, locals := 113 } : Room) s m ([.ref x, .int xv, .int yv, .ref na, .ref ma] : List Value).toArray below meth c H locs 0 0 (MQ below (zRQ D (zT cI cC cM cB cJ) (pG cI cC cM cB ad t sg sz r x h ah na ma wr (k + 1)) (some (.int 1)) A) ([.ref x, .int xv, .int yv, .ref na, .ref ma] : List Value).toArray s 1 6 A) (F0 m 492 ls []) := by
          intro H locs hP hD hS ls hl
          refine lv_aload_n hx hb dL_bank_492 rfl (lv_at hl 0 rfl) ?_
          have hM := c_X5_takeBack (l := l) (D := D) (cI := cI) (cC := cC) (cM := cM) (cB := cB) (cJ := cJ) (ad := ad) (z := z) (t := t) (h := h) (ah := ah) (zh := zh) (x := x) (sg := sg) (r := r) (sz := sz) (nx := nx) (kp := kp) (wr := lwS cI na ma (endZ z) (min (kp + 1) 6) wr) hfl (n := n) (by omega) hz hnx hkp hB 
          refine z_callX (rest := []) S hM qm_L_69 v_X5_takeBack ⟨Nat.le_of_ble_eq_true rfl, Nat.le_of_ble_eq_true rfl⟩ rfl rfl hJ hN hK hP hD hS hA 22 xw_x rfl rfl hl.1 rfl (Nat.le_of_ble_eq_true rfl) dL_bank_493 ⟨Nat.le_of_ble_eq_true rfl, Nat.le_of_ble_eq_true rfl⟩ (fun _ H locs hP hD hS => ?_) (fun q_ => absurd (kg_take (by rw [hz10]; exact nI_nm1 (by omega))) q_)
          refine W.eq (g2 := F0 m 496 ls [.int (cntB z 1 n + cntB z 2 n)]) rfl ?_
          refine lv_iload hx hb dL_bank_496 (lv_at hl 7 rfl) ?_
          refine lv_icmp_ne (tgt := 505) hx hb dL_bank_498 (by decide) (fun c24 => absurd c24 (not_not_intro (tk_ans hR (by omega)))) (fun c24 => ?_)
          refine lv_iconst (v := 1) hx hb dL_bank_501 (by decide) ?_
          refine lv_goto (tgt := 506) hx hb dL_bank_502 (by decide) ?_
          obtain ⟨z2_, q1_, q2_, q3_⟩ := ps_take hI h2
          exact z_zretR hx hb hr hlocks hP hD hK hS (pg_mk q1_ q2_ q3_ rfl) rfl rfl dL_bank_506
        refine lv_icmp_ge (tgt := 492) hx hb dL_bank_482 (by decide) (fun c25 => ?_) (fun c25 => ?_)
        · have c25 := z_nlt c25
          have hP := va_P_eq (w2 := xw0 cI cC cM cB ad z t sg sz r x h ah (nI nx) (nI kp) zh (lwS cI na ma (endZ z) (min (kp + 1) 6) wr)) (congrArg (fun q_ => xw0 cI cC cM cB ad z t sg sz r x h ah (nI nx) (nI kp) zh (lwS cI na ma (endZ z) q_ wr)) (show kp = min (kp + 1) 6 by have : ¬ kp < 6 := fun q => c25 ((nI_lti (a := kp) (b := 6) (by omega) (by omega)).mpr q); omega)) hP
          have hD := va_D_eq (w2 := xw0 cI cC cM cB ad z t sg sz r x h ah (nI nx) (nI kp) zh (lwS cI na ma (endZ z) (min (kp + 1) 6) wr)) (congrArg (fun q_ => xw0 cI cC cM cB ad z t sg sz r x h ah (nI nx) (nI kp) zh (lwS cI na ma (endZ z) q_ wr)) (show kp = min (kp + 1) 6 by have : ¬ kp < 6 := fun q => c25 ((nI_lti (a := kp) (b := 6) (by omega) (by omega)).mpr q); omega)) hD
          exact J492_0 _ _ hP hD hS ls (lv_sub hl [3, 4, 5, 6, 7, 2, 1, 0] rfl)
        · have c25 := z_lt c25
          refine lv_aload_n hx hb dL_bank_485 rfl (lv_at hl 6 rfl) ?_
          refine lv_iconst (v := 5) hx hb dL_bank_486 (by decide) ?_
          refine lv_dup2_11 hx hb dL_bank_487 rfl rfl ?_
          refine va_iald hx hb hK hP (139 + (0)) 0 ((xw_r).trans (lw_0)) rfl (vp_in_nI (show 5 < 15 by decide) (by omega)) dL_bank_488 ?_
          refine z_top (v2 := .int (nI kp)) (congrArg Value.int (nf_5 rfl)) ?_
          refine lv_iconst (v := 1) hx hb dL_bank_489 (by decide) ?_
          refine lv_iadd hx hb dL_bank_490  ?_
          refine z_top (v2 := .int (nI (kp + 1))) (congrArg Value.int (nI_add kp 1)) ?_
          refine z_iast (ws2 := xw0 cI cC cM cB ad z t sg sz r x h ah (nI nx) (nI kp) zh (lwS cI na ma (endZ z) (kp + 1) wr)) hx hb hK hP hD hS (139 + (0)) 0 ((xw_r).trans (lw_0)) rfl (vp_in_nI (show 5 < 15 by decide) (by omega)) dL_bank_491 ((xw_rs).trans (congrArg (fun w_ => xw0 cI cC cM cB ad z t sg sz r x h ah (nI nx) (nI kp) zh w_) (z_ixw (k := 5) rfl (by omega) (fun q_ => (lwS cI na ma (endZ z) kp wr).set 0 (na, .inl (cI, 15, .inl (upd (nfn (endZ z) kp) q_ (nI (kp + 1)))))) lw_wk))) (fun H locs hP hD hS => ?_)
          have hP := va_P_eq (w2 := xw0 cI cC cM cB ad z t sg sz r x h ah (nI nx) (nI kp) zh (lwS cI na ma (endZ z) (min (kp + 1) 6) wr)) (congrArg (fun q_ => xw0 cI cC cM cB ad z t sg sz r x h ah (nI nx) (nI kp) zh (lwS cI na ma (endZ z) q_ wr)) (show kp + 1 = min (kp + 1) 6 by have := (nI_lti (a := kp) (b := 6) (by omega) (by omega)).mp c25; omega)) hP
          have hD := va_D_eq (w2 := xw0 cI cC cM cB ad z t sg sz r x h ah (nI nx) (nI kp) zh (lwS cI na ma (endZ z) (min (kp + 1) 6) wr)) (congrArg (fun q_ => xw0 cI cC cM cB ad z t sg sz r x h ah (nI nx) (nI kp) zh (lwS cI na ma (endZ z) q_ wr)) (show kp + 1 = min (kp + 1) 6 by have := (nI_lti (a := kp) (b := 6) (by omega) (by omega)).mp c25; omega)) hD
          exact J492_0 _ _ hP hD hS ls (lv_sub hl [3, 4, 5, 6, 7, 2, 1, 0] rfl)
  · have c1 := z_lt c1
    refine lv_iconst (v := 1) hx hb dL_bank_23 (by decide) ?_
    refine lv_iload_n hx hb dL_bank_24 rfl (lv_at hl 4 rfl) ?_
    refine lv_bipush (v := 6) hx hb dL_bank_25 (by decide) ?_
    refine z_callS1 (rest := [.int 1]) S (c_L_at yv 6 (by decide)) qm_L_26 t_L_at ⟨Nat.le_of_ble_eq_true rfl, Nat.le_of_ble_eq_true rfl⟩ rfl rfl hN hK hP hD hS hA rfl hl.1 rfl (Nat.le_of_ble_eq_true rfl) dL_bank_27 ⟨Nat.le_of_ble_eq_true rfl, Nat.le_of_ble_eq_true rfl⟩ (fun H locs hP hD hS => ?_)
    obtain ⟨w_, h_w_, e_w_⟩ := at_nat (x := yv) (N := 6) (by omega) (by omega)
    refine z_top (v2 := .int (nI w_)) (congrArg Value.int e_w_) ?_
    refine lv_iadd hx hb dL_bank_30  ?_
    refine z_top (v2 := .int (nI (1 + w_))) (congrArg Value.int (nI_add 1 w_)) ?_
    refine lv_istore (lv' := [(7, .int (nI (1 + w_))), (6, .int (nI a)), (5, .int (atP xv 6)), (0, .ref x), (1, .int xv), (2, .int yv), (3, .ref na), (4, .ref ma)]) hx hb dL_bank_31 hl (by decide) rfl (fun ls hl => ?_)
    refine lv_iconst (v := 0) hx hb dL_bank_33 (by decide) ?_
    refine lv_istore (lv' := [(8, .int 0), (7, .int (nI (1 + w_))), (6, .int (nI a)), (5, .int (atP xv 6)), (0, .ref x), (1, .int xv), (2, .int yv), (3, .ref na), (4, .ref ma)]) hx hb dL_bank_34 hl (by decide) rfl (fun ls hl => ?_)
    refine lv_iconst (v := 0) hx hb dL_bank_36 (by decide) ?_
    refine lv_istore (lv' := [(9, .int 0), (8, .int 0), (7, .int (nI (1 + w_))), (6, .int (nI a)), (5, .int (atP xv 6)), (0, .ref x), (1, .int xv), (2, .int yv), (3, .ref na), (4, .ref ma)]) hx hb dL_bank_37 hl (by decide) rfl (fun ls hl => ?_)
    have K39 : ∀ (n39 i : Nat), i + n39 = 1 + w_ → ∀ (H : Heap) (locs : List Loc), va_P D vwCl (xw0 cI cC cM cB ad z t sg sz r x h ah (nI nx) (nI kp) zh (lwS cI na ma (pZ z n i) kp wr)) H → va_D A (xw0 cI cC cM cB ad z t sg sz r x h ah (nI nx) (nI kp) zh (lwS cI na ma (pZ z n i) kp wr)) → va_S A s.heap H locs → ∀ ls : Array Slot, lv_has ls 13 [(0, .ref x), (1, .int xv), (2, .int yv), (3, .ref na), (4, .ref ma), (5, .int (atP xv 6)), (6, .int (nI a)), (7, .int (nI (1 + w_))), (8, .int (pS z n i)), (9, .int (nI i))] → W p l e ({ frames := 7, cells := 1, slots := 6, locals := 113 } : Room) s m ([.ref x, .int xv, .int yv, .ref na, .ref ma] : List Value).toArray below meth c H locs 0 0 (MQ below (zRQ D (zT cI cC cM cB cJ) (pG cI cC cM cB ad t sg sz r x h ah na ma wr (k + 1)) (some (.int 1)) A) ([.ref x, .int xv, .int yv, .ref na, .ref ma] : List Value).toArray s 1 6 A) (F0 m 39 ls []) := by
      intro n39
      induction n39 with
      | zero =>
        intro i h_i H locs hP hD hS ls hl
        have ei : 1 + w_ = i := by omega
        subst ei
        refine lv_iload hx hb dL_bank_39 (lv_at hl 9 rfl) ?_
        refine lv_iload hx hb dL_bank_41 (lv_at hl 7 rfl) ?_
        refine lv_icmp_ge (tgt := 301) hx hb dL_bank_43 (by decide) (fun c26 => ?_) (fun c26 => absurd (nI_le (a := 1 + w_) (b := 1 + w_) (by omega) (by omega)) c26)
        have c26 := z_nlt c26
        refine lv_aload_n hx hb dL_bank_301 rfl (lv_at hl 3 rfl) ?_
        refine lv_iconst (v := 3) hx hb dL_bank_302 (by decide) ?_
        refine lv_dup2_11 hx hb dL_bank_303 rfl rfl ?_
        refine va_iald hx hb hK hP (139 + (0)) 0 ((xw_r).trans (lw_0)) rfl (vp_in_nI (show 3 < 15 by decide) (by omega)) dL_bank_304 ?_
        refine z_top (v2 := .int (z 8)) (congrArg Value.int ((nf_3 rfl).trans (pZ_at (1 + w_) (by decide) (by decide)))) ?_
        refine lv_iload hx hb dL_bank_305 (lv_at hl 7 rfl) ?_
        refine lv_iadd hx hb dL_bank_307  ?_
        refine z_iast (ws2 := xw0 cI cC cM cB ad z t sg sz r x h ah (nI nx) (nI kp) zh (lwS cI na ma (upd (pZ z n (1 + w_)) 8 ((z 8) + (nI (1 + w_)))) kp wr)) hx hb hK hP hD hS (139 + (0)) 0 ((xw_r).trans (lw_0)) rfl (vp_in_nI (show 3 < 15 by decide) (by omega)) dL_bank_308 ((xw_rs).trans (congrArg (fun w_ => xw0 cI cC cM cB ad z t sg sz r x h ah (nI nx) (nI kp) zh w_) (z_ixw (k := 3) rfl (by omega) (fun q_ => (lwS cI na ma (pZ z n (1 + w_)) kp wr).set 0 (na, .inl (cI, 15, .inl (upd (nfn (pZ z n (1 + w_)) kp) q_ ((z 8) + (nI (1 + w_))))))) (lw_wx (by decide) (by decide) rfl)))) (fun H locs hP hD hS => ?_)
        refine lv_aload_n hx hb dL_bank_309 rfl (lv_at hl 3 rfl) ?_
        refine lv_iconst (v := 5) hx hb dL_bank_310 (by decide) ?_
        refine va_iald hx hb hK hP (139 + (0)) 0 ((xw_r).trans (lw_0)) rfl (vp_in_nI (show 5 < 15 by decide) (by omega)) dL_bank_311 ?_
        refine z_top (v2 := .int (nI kp)) (congrArg Value.int (nf_5 rfl)) ?_
        refine lv_bipush (v := 6) hx hb dL_bank_312 (by decide) ?_
        have J324_0 : ∀ (H : Heap) (locs : List Loc), va_P D vwCl (xw0 cI cC cM cB ad z t sg sz r x h ah (nI nx) (nI kp) zh (lwS cI na ma (upd (pZ z n (1 + w_)) 8 ((z 8) + (nI (1 + w_)))) (min (kp + 1) 6) wr)) H → va_D A (xw0 cI cC cM cB ad z t sg sz r x h ah (nI nx) (nI kp) zh (lwS cI na ma (upd (pZ z n (1 + w_)) 8 ((z 8) + (nI (1 + w_)))) (min (kp + 1) 6) wr)) → va_S A s.heap H locs → ∀ ls : Array Slot, lv_has ls 13 [(0, .ref x), (1, .int xv), (2, .int yv), (3, .ref na), (4, .ref ma), (5, .int (atP xv 6)), (6, .int (nI a)), (7, .int (nI (1 + w_))), (8, .int (pS z n (1 + w_))), (9, .int (nI (1 + w_)))] → W p l e ({ frames := 7, cells := 1, slots := 6, locals := 113 } : Room) s m ([.ref x, .int xv, .int yv, .ref na, .ref ma] : List Value).toArray below meth c H locs 0 0 (MQ below (zRQ D (zT cI cC cM cB cJ) (pG cI cC cM cB ad t sg sz r x h ah na ma wr (k + 1)) (some (.int 1)) A) ([.ref x, .int xv, .int yv, .ref na, .ref ma] : List Value).toArray s 1 6 A) (F0 m 324 ls []) := by
          intro H locs hP hD hS ls hl
          refine lv_aload_n hx hb dL_bank_324 rfl (lv_at hl 0 rfl) ?_
          refine lv_iload hx hb dL_bank_325 (lv_at hl 7 rfl) ?_
          have hM := c_X5_pass (l := l) (D := D) (cI := cI) (cC := cC) (cM := cM) (cB := cB) (cJ := cJ) (ad := ad) (z := z) (t := t) (h := h) (ah := ah) (zh := zh) (x := x) (sg := sg) (r := r) (sz := sz) (nx := nx) (kp := kp) (wr := lwS cI na ma (upd (pZ z n (1 + w_)) 8 ((z 8) + (nI (1 + w_)))) (min (kp + 1) 6) wr) hfl (n := n) (by omega) hz hnx hkp hB (nI (1 + w_))
          rw [cl_nI (show 1 + w_ < 2 ^ 31 by omega)] at hM
          refine z_callX (rest := []) S hM qm_L_60 v_X5_pass ⟨Nat.le_of_ble_eq_true rfl, Nat.le_of_ble_eq_true rfl⟩ rfl rfl hJ hN hK hP hD hS hA 22 xw_x rfl rfl hl.1 rfl (Nat.le_of_ble_eq_true rfl) dL_bank_327 ⟨Nat.le_of_ble_eq_true rfl, Nat.le_of_ble_eq_true rfl⟩ (fun _ H locs hP hD hS => ?_) (fun q_ => absurd (kg_pass hk hI (by omega)) q_)
          refine W.eq (g2 := F0 m 330 ls [.int (wkS z n (1 + w_))]) rfl ?_
          refine lv_iload hx hb dL_bank_330 (lv_at hl 8 rfl) ?_
          refine lv_icmp_ne (tgt := 339) hx hb dL_bank_332 (by decide) (fun c27 => absurd c27 (not_not_intro (pz_wk _).2.symm)) (fun c27 => ?_)
          refine lv_iconst (v := 1) hx hb dL_bank_335 (by decide) ?_
          refine lv_goto (tgt := 340) hx hb dL_bank_336 (by decide) ?_
          exact z_zretR hx hb hr hlocks hP hD hK hS (pg_mk (ps_pass hk hI h2 (by omega)) (fun _ _ _ _ => rfl) pz_fin rfl) rfl rfl dL_bank_340
        refine lv_icmp_ge (tgt := 324) hx hb dL_bank_314 (by decide) (fun c28 => ?_) (fun c28 => ?_)
        · have c28 := z_nlt c28
          have hP := va_P_eq (w2 := xw0 cI cC cM cB ad z t sg sz r x h ah (nI nx) (nI kp) zh (lwS cI na ma (upd (pZ z n (1 + w_)) 8 ((z 8) + (nI (1 + w_)))) (min (kp + 1) 6) wr)) (congrArg (fun q_ => xw0 cI cC cM cB ad z t sg sz r x h ah (nI nx) (nI kp) zh (lwS cI na ma (upd (pZ z n (1 + w_)) 8 ((z 8) + (nI (1 + w_)))) q_ wr)) (show kp = min (kp + 1) 6 by have : ¬ kp < 6 := fun q => c28 ((nI_lti (a := kp) (b := 6) (by omega) (by omega)).mpr q); omega)) hP
          have hD := va_D_eq (w2 := xw0 cI cC cM cB ad z t sg sz r x h ah (nI nx) (nI kp) zh (lwS cI na ma (upd (pZ z n (1 + w_)) 8 ((z 8) + (nI (1 + w_)))) (min (kp + 1) 6) wr)) (congrArg (fun q_ => xw0 cI cC cM cB ad z t sg sz r x h ah (nI nx) (nI kp) zh (lwS cI na ma (upd (pZ z n (1 + w_)) 8 ((z 8) + (nI (1 + w_)))) q_ wr)) (show kp = min (kp + 1) 6 by have : ¬ kp < 6 := fun q => c28 ((nI_lti (a := kp) (b := 6) (by omega) (by omega)).mpr q); omega)) hD
          exact J324_0 _ _ hP hD hS ls (lv_sub hl [0, 1, 2, 3, 4, 5, 6, 7, 8, 9] rfl)
        · have c28 := z_lt c28
          refine lv_aload_n hx hb dL_bank_317 rfl (lv_at hl 3 rfl) ?_
          refine lv_iconst (v := 5) hx hb dL_bank_318 (by decide) ?_
          refine lv_dup2_11 hx hb dL_bank_319 rfl rfl ?_
          refine va_iald hx hb hK hP (139 + (0)) 0 ((xw_r).trans (lw_0)) rfl (vp_in_nI (show 5 < 15 by decide) (by omega)) dL_bank_320 ?_
          refine z_top (v2 := .int (nI kp)) (congrArg Value.int (nf_5 rfl)) ?_
          refine lv_iconst (v := 1) hx hb dL_bank_321 (by decide) ?_
          refine lv_iadd hx hb dL_bank_322  ?_
          refine z_top (v2 := .int (nI (kp + 1))) (congrArg Value.int (nI_add kp 1)) ?_
          refine z_iast (ws2 := xw0 cI cC cM cB ad z t sg sz r x h ah (nI nx) (nI kp) zh (lwS cI na ma (upd (pZ z n (1 + w_)) 8 ((z 8) + (nI (1 + w_)))) (kp + 1) wr)) hx hb hK hP hD hS (139 + (0)) 0 ((xw_r).trans (lw_0)) rfl (vp_in_nI (show 5 < 15 by decide) (by omega)) dL_bank_323 ((xw_rs).trans (congrArg (fun w_ => xw0 cI cC cM cB ad z t sg sz r x h ah (nI nx) (nI kp) zh w_) (z_ixw (k := 5) rfl (by omega) (fun q_ => (lwS cI na ma (upd (pZ z n (1 + w_)) 8 ((z 8) + (nI (1 + w_)))) kp wr).set 0 (na, .inl (cI, 15, .inl (upd (nfn (upd (pZ z n (1 + w_)) 8 ((z 8) + (nI (1 + w_)))) kp) q_ (nI (kp + 1)))))) lw_wk))) (fun H locs hP hD hS => ?_)
          have hP := va_P_eq (w2 := xw0 cI cC cM cB ad z t sg sz r x h ah (nI nx) (nI kp) zh (lwS cI na ma (upd (pZ z n (1 + w_)) 8 ((z 8) + (nI (1 + w_)))) (min (kp + 1) 6) wr)) (congrArg (fun q_ => xw0 cI cC cM cB ad z t sg sz r x h ah (nI nx) (nI kp) zh (lwS cI na ma (upd (pZ z n (1 + w_)) 8 ((z 8) + (nI (1 + w_)))) q_ wr)) (show kp + 1 = min (kp + 1) 6 by have := (nI_lti (a := kp) (b := 6) (by omega) (by omega)).mp c28; omega)) hP
          have hD := va_D_eq (w2 := xw0 cI cC cM cB ad z t sg sz r x h ah (nI nx) (nI kp) zh (lwS cI na ma (upd (pZ z n (1 + w_)) 8 ((z 8) + (nI (1 + w_)))) (min (kp + 1) 6) wr)) (congrArg (fun q_ => xw0 cI cC cM cB ad z t sg sz r x h ah (nI nx) (nI kp) zh (lwS cI na ma (upd (pZ z n (1 + w_)) 8 ((z 8) + (nI (1 + w_)))) q_ wr)) (show kp + 1 = min (kp + 1) 6 by have := (nI_lti (a := kp) (b := 6) (by omega) (by omega)).mp c28; omega)) hD
          exact J324_0 _ _ hP hD hS ls (lv_sub hl [0, 1, 2, 3, 4, 5, 6, 7, 8, 9] rfl)
      | succ n39 ih39 =>
        intro i h_i H locs hP hD hS ls hl
        have li : i < 1 + w_ := by omega
        refine lv_iload hx hb dL_bank_39 (lv_at hl 9 rfl) ?_
        refine lv_iload hx hb dL_bank_41 (lv_at hl 7 rfl) ?_
        refine lv_icmp_ge (tgt := 301) hx hb dL_bank_43 (by decide) (fun c29 => absurd c29 (nI_ge (a := i) (b := 1 + w_) (by omega) (by omega))) (fun c29 => ?_)
        have c29 := z_lt c29
        refine lv_iconst (v := 0) hx hb dL_bank_46 (by decide) ?_
        refine lv_istore (lv' := [(10, .int 0), (0, .ref x), (1, .int xv), (2, .int yv), (3, .ref na), (4, .ref ma), (5, .int (atP xv 6)), (6, .int (nI a)), (7, .int (nI (1 + w_))), (8, .int (pS z n i)), (9, .int (nI i))]) hx hb dL_bank_47 hl (by decide) rfl (fun ls hl => ?_)
        have K49 : ∀ (n49 j : Nat), j + n49 = n → ∀ (H : Heap) (locs : List Loc), va_P D vwCl (xw0 cI cC cM cB ad z t sg sz r x h ah (nI nx) (nI kp) zh (lwS cI na ma (ewkZ (pZ z n i) j) kp wr)) H → va_D A (xw0 cI cC cM cB ad z t sg sz r x h ah (nI nx) (nI kp) zh (lwS cI na ma (ewkZ (pZ z n i) j) kp wr)) → va_S A s.heap H locs → ∀ ls : Array Slot, lv_has ls 13 [(0, .ref x), (1, .int xv), (2, .int yv), (3, .ref na), (4, .ref ma), (5, .int (atP xv 6)), (6, .int (nI a)), (7, .int (nI (1 + w_))), (8, .int (pS z n i + ewkR (pZ z n i) j)), (9, .int (nI i)), (10, .int (nI j))] → W p l e ({ frames := 7, cells := 1, slots := 6, locals := 113 } : Room) s m ([.ref x, .int xv, .int yv, .ref na, .ref ma] : List Value).toArray below meth c H locs 0 0 (MQ below (zRQ D (zT cI cC cM cB cJ) (pG cI cC cM cB ad t sg sz r x h ah na ma wr (k + 1)) (some (.int 1)) A) ([.ref x, .int xv, .int yv, .ref na, .ref ma] : List Value).toArray s 1 6 A) (F0 m 49 ls []) := by
          intro n49
          induction n49 with
          | zero =>
            intro j h_j H locs hP hD hS ls hl
            have ej : n = j := by omega
            subst ej
            refine lv_iload hx hb dL_bank_49 (lv_at hl 10 rfl) ?_
            refine lv_aload_n hx hb dL_bank_51 rfl (lv_at hl 3 rfl) ?_
            refine lv_iconst (v := 0) hx hb dL_bank_52 (by decide) ?_
            refine va_iald hx hb hK hP (139 + (0)) 0 ((xw_r).trans (lw_0)) rfl (vp_in_nI (show 0 < 15 by decide) (by omega)) dL_bank_53 ?_
            refine z_top (v2 := .int (nI n)) (congrArg Value.int ((nf_0 rfl).trans ((ewkZ_at n (by decide) (by decide)).trans ((pZ_at i (by decide) (by decide)).trans hz)))) ?_
            refine lv_icmp_ge (tgt := 295) hx hb dL_bank_54 (by decide) (fun c30 => ?_) (fun c30 => absurd (nI_le (a := n) (b := n) (by omega) (by omega)) c30)
            have c30 := z_nlt c30
            refine lv_iinc (v := nI (i + 1)) (lv' := [(9, .int (nI (i + 1))), (0, .ref x), (1, .int xv), (2, .int yv), (3, .ref na), (4, .ref ma), (5, .int (atP xv 6)), (6, .int (nI a)), (7, .int (nI (1 + w_))), (8, .int (pS z n i + ewkR (pZ z n i) n)), (10, .int (nI n))]) hx hb dL_bank_295 hl (k := 9) rfl (nI_1 _) (by decide) rfl (fun ls hl => ?_)
            refine lv_goto (tgt := 39) hx hb dL_bank_298 (by decide) ?_
            have hl := (congrArg (fun qv_ => lv_has ls 13 [(9, .int (nI (i + 1))), (0, .ref x), (1, .int xv), (2, .int yv), (3, .ref na), (4, .ref ma), (5, .int (atP xv 6)), (6, .int (nI a)), (7, .int (nI (1 + w_))), (8, qv_), (10, .int (nI n))]) (show Value.int (pS z n i + ewkR (pZ z n i) n) = .int (pS z n (i + 1)) from congrArg Value.int (rfl))).mp hl
            have hP := va_P_eq (w2 := xw0 cI cC cM cB ad z t sg sz r x h ah (nI nx) (nI kp) zh (lwS cI na ma (pZ z n (i + 1)) kp wr)) (congrArg (fun q_ => xw0 cI cC cM cB ad z t sg sz r x h ah (nI nx) (nI kp) zh (lwS cI na ma q_ kp wr)) (show ewkZ (pZ z n i) n = pZ z n (i + 1) from rfl)) hP
            have hD := va_D_eq (w2 := xw0 cI cC cM cB ad z t sg sz r x h ah (nI nx) (nI kp) zh (lwS cI na ma (pZ z n (i + 1)) kp wr)) (congrArg (fun q_ => xw0 cI cC cM cB ad z t sg sz r x h ah (nI nx) (nI kp) zh (lwS cI na ma q_ kp wr)) (show ewkZ (pZ z n i) n = pZ z n (i + 1) from rfl)) hD
            exact ih39 (i + 1) (by omega) _ _ hP hD hS ls (lv_sub hl [1, 2, 3, 4, 5, 6, 7, 8, 9, 0] rfl)
          | succ n49 ih49 =>
            intro j h_j H locs hP hD hS ls hl
            have lj : j < n := by omega
            have hBY : hBool (ewkZ (pZ z n i) j) := ewkZ_bool (pZ_bool hB i) j
            refine lv_iload hx hb dL_bank_49 (lv_at hl 10 rfl) ?_
            refine lv_aload_n hx hb dL_bank_51 rfl (lv_at hl 3 rfl) ?_
            refine lv_iconst (v := 0) hx hb dL_bank_52 (by decide) ?_
            refine va_iald hx hb hK hP (139 + (0)) 0 ((xw_r).trans (lw_0)) rfl (vp_in_nI (show 0 < 15 by decide) (by omega)) dL_bank_53 ?_
            refine z_top (v2 := .int (nI n)) (congrArg Value.int ((nf_0 rfl).trans ((ewkZ_at j (by decide) (by decide)).trans ((pZ_at i (by decide) (by decide)).trans hz)))) ?_
            refine lv_icmp_ge (tgt := 295) hx hb dL_bank_54 (by decide) (fun c31 => absurd c31 (nI_ge (a := j) (b := n) (by omega) (by omega))) (fun c31 => ?_)
            have c31 := z_lt c31
            refine lv_aload hx hb dL_bank_57 (lv_at hl 4 rfl) ?_
            refine lv_bipush (v := 16) hx hb dL_bank_59 (by decide) ?_
            refine lv_iload hx hb dL_bank_61 (lv_at hl 10 rfl) ?_
            refine lv_imul hx hb dL_bank_63 ?_
            refine z_top (v2 := .int (nI (16 * j))) (congrArg Value.int (pk_mul 16 j)) ?_
            refine va_iald hx hb hK hP (139 + (1)) 0 ((xw_r).trans (lw_1)) rfl (vp_in_nI (show 16 * j < 64 by omega) (by omega)) dL_bank_64 ?_
            refine z_top (v2 := .int (ewkZ (pZ z n i) j (14 + 16 * j))) (congrArg Value.int ((lm_at rfl (show 16 * j < 64 by omega) (show 14 + (16 * j) = 14 + 16 * j by omega)).trans (rfl))) ?_
            refine lv_iconst (v := 1) hx hb dL_bank_65 (by decide) ?_
            refine lv_icmp_ne (tgt := 289) hx hb dL_bank_66 (by decide) (fun c32 => ?_) (fun c32 => ?_)
            · skip
              refine lv_iinc (v := nI (j + 1)) (lv' := [(10, .int (nI (j + 1))), (0, .ref x), (1, .int xv), (2, .int yv), (3, .ref na), (4, .ref ma), (5, .int (atP xv 6)), (6, .int (nI a)), (7, .int (nI (1 + w_))), (8, .int (pS z n i + ewkR (pZ z n i) j)), (9, .int (nI i))]) hx hb dL_bank_289 hl (k := 10) rfl (nI_1 _) (by decide) rfl (fun ls hl => ?_)
              refine lv_goto (tgt := 49) hx hb dL_bank_292 (by decide) ?_
              have hl := (congrArg (fun qv_ => lv_has ls 13 [(10, .int (nI (j + 1))), (0, .ref x), (1, .int xv), (2, .int yv), (3, .ref na), (4, .ref ma), (5, .int (atP xv 6)), (6, .int (nI a)), (7, .int (nI (1 + w_))), (8, qv_), (9, .int (nI i))]) (show Value.int (pS z n i + ewkR (pZ z n i) j) = .int (pS z n i + ewkR (pZ z n i) (j + 1)) from congrArg Value.int (congrArg (fun q_ => pS z n i + q_) (ewk_no hBY (by omega) c32).2))).mp hl
              have hP := va_P_eq (w2 := xw0 cI cC cM cB ad z t sg sz r x h ah (nI nx) (nI kp) zh (lwS cI na ma (ewkZ (pZ z n i) (j + 1)) kp wr)) (congrArg (fun q_ => xw0 cI cC cM cB ad z t sg sz r x h ah (nI nx) (nI kp) zh (lwS cI na ma q_ kp wr)) (ewk_no hBY (by omega) c32).1) hP
              have hD := va_D_eq (w2 := xw0 cI cC cM cB ad z t sg sz r x h ah (nI nx) (nI kp) zh (lwS cI na ma (ewkZ (pZ z n i) (j + 1)) kp wr)) (congrArg (fun q_ => xw0 cI cC cM cB ad z t sg sz r x h ah (nI nx) (nI kp) zh (lwS cI na ma q_ kp wr)) (ewk_no hBY (by omega) c32).1) hD
              exact ih49 (j + 1) (by omega) _ _ hP hD hS ls (lv_sub hl [1, 2, 3, 4, 5, 6, 7, 8, 9, 10, 0] rfl)
            · skip
              refine lv_aload hx hb dL_bank_69 (lv_at hl 4 rfl) ?_
              refine lv_bipush (v := 16) hx hb dL_bank_71 (by decide) ?_
              refine lv_iload hx hb dL_bank_73 (lv_at hl 10 rfl) ?_
              refine lv_imul hx hb dL_bank_75 ?_
              refine z_top (v2 := .int (nI (16 * j))) (congrArg Value.int (pk_mul 16 j)) ?_
              refine lv_iconst (v := 3) hx hb dL_bank_76 (by decide) ?_
              refine lv_iadd hx hb dL_bank_77  ?_
              refine z_top (v2 := .int (nI (16 * j + 3))) (congrArg Value.int (nI_add (16 * j) 3)) ?_
              refine lv_aload hx hb dL_bank_78 (lv_at hl 4 rfl) ?_
              refine lv_bipush (v := 16) hx hb dL_bank_80 (by decide) ?_
              refine lv_iload hx hb dL_bank_82 (lv_at hl 10 rfl) ?_
              refine lv_imul hx hb dL_bank_84 ?_
              refine z_top (v2 := .int (nI (16 * j))) (congrArg Value.int (pk_mul 16 j)) ?_
              refine lv_iconst (v := 4) hx hb dL_bank_85 (by decide) ?_
              refine lv_iadd hx hb dL_bank_86  ?_
              refine z_top (v2 := .int (nI (16 * j + 4))) (congrArg Value.int (nI_add (16 * j) 4)) ?_
              refine va_iald hx hb hK hP (139 + (1)) 0 ((xw_r).trans (lw_1)) rfl (vp_in_nI (show 16 * j + 4 < 64 by omega) (by omega)) dL_bank_87 ?_
              refine z_top (v2 := .int (ewkZ (pZ z n i) j (14 + 16 * j + 4))) (congrArg Value.int ((lm_at rfl (show 16 * j + 4 < 64 by omega) (show 14 + (16 * j + 4) = 14 + 16 * j + 4 by omega)).trans (rfl))) ?_
              refine lv_iconst (v := 1) hx hb dL_bank_88 (by decide) ?_
              have J108_0 : ∀ (H : Heap) (locs : List Loc), va_P D vwCl (xw0 cI cC cM cB ad z t sg sz r x h ah (nI nx) (nI kp) zh (lwS cI na ma (ewkZ (pZ z n i) j) kp wr)) H → va_D A (xw0 cI cC cM cB ad z t sg sz r x h ah (nI nx) (nI kp) zh (lwS cI na ma (ewkZ (pZ z n i) j) kp wr)) → va_S A s.heap H locs → ∀ ls : Array Slot, lv_has ls 13 [(0, .ref x), (1, .int xv), (2, .int yv), (3, .ref na), (4, .ref ma), (5, .int (atP xv 6)), (6, .int (nI a)), (7, .int (nI (1 + w_))), (8, .int (pS z n i + ewkR (pZ z n i) j)), (9, .int (nI i)), (10, .int (nI j))] → W p l e ({ frames := 7, cells := 1, slots := 6, locals := 113 } : Room) s m ([.ref x, .int xv, .int yv, .ref na, .ref ma] : List Value).toArray below meth c H locs 0 0 (MQ below (zRQ D (zT cI cC cM cB cJ) (pG cI cC cM cB ad t sg sz r x h ah na ma wr (k + 1)) (some (.int 1)) A) ([.ref x, .int xv, .int yv, .ref na, .ref ma] : List Value).toArray s 1 6 A) (F0 m 108 ls [.int (idlP (ewkZ (pZ z n i) j) j), .int (nI (16 * j + 3)), .ref ma]) := by
                intro H locs hP hD hS ls hl
                refine z_iast (ws2 := xw0 cI cC cM cB ad z t sg sz r x h ah (nI nx) (nI kp) zh (lwS cI na ma (upd (ewkZ (pZ z n i) j) (14 + 16 * j + 3) (idlP (ewkZ (pZ z n i) j) j)) kp wr)) hx hb hK hP hD hS (139 + (1)) 0 ((xw_r).trans (lw_1)) rfl (vp_in_nI (show 16 * j + 3 < 64 by omega) (by omega)) dL_bank_108 ((xw_rs).trans (congrArg (fun w_ => xw0 cI cC cM cB ad z t sg sz r x h ah (nI nx) (nI kp) zh w_) (z_ixw rfl (show 16 * j + 3 < 2 ^ 31 by omega) (fun q_ => (lwS cI na ma (ewkZ (pZ z n i) j) kp wr).set 1 (ma, .inl (cI, 64, .inl (upd (mfn (ewkZ (pZ z n i) j)) q_ (idlP (ewkZ (pZ z n i) j) j))))) (lw_wm (show 16 * j + 3 < 64 by omega) (show 14 + (16 * j + 3) = 14 + 16 * j + 3 by omega))))) (fun H locs hP hD hS => ?_)
                refine lv_aload hx hb dL_bank_109 (lv_at hl 4 rfl) ?_
                refine lv_bipush (v := 16) hx hb dL_bank_111 (by decide) ?_
                refine lv_iload hx hb dL_bank_113 (lv_at hl 10 rfl) ?_
                refine lv_imul hx hb dL_bank_115 ?_
                refine z_top (v2 := .int (nI (16 * j))) (congrArg Value.int (pk_mul 16 j)) ?_
                refine lv_iconst (v := 4) hx hb dL_bank_116 (by decide) ?_
                refine lv_iadd hx hb dL_bank_117  ?_
                refine z_top (v2 := .int (nI (16 * j + 4))) (congrArg Value.int (nI_add (16 * j) 4)) ?_
                refine lv_iconst (v := 0) hx hb dL_bank_118 (by decide) ?_
                refine z_iast (ws2 := xw0 cI cC cM cB ad z t sg sz r x h ah (nI nx) (nI kp) zh (lwS cI na ma (upd (upd (ewkZ (pZ z n i) j) (14 + 16 * j + 3) (idlP (ewkZ (pZ z n i) j) j)) (14 + 16 * j + 4) 0) kp wr)) hx hb hK hP hD hS (139 + (1)) 0 ((xw_r).trans (lw_1)) rfl (vp_in_nI (show 16 * j + 4 < 64 by omega) (by omega)) dL_bank_119 ((xw_rs).trans (congrArg (fun w_ => xw0 cI cC cM cB ad z t sg sz r x h ah (nI nx) (nI kp) zh w_) (z_ixw rfl (show 16 * j + 4 < 2 ^ 31 by omega) (fun q_ => (lwS cI na ma (upd (ewkZ (pZ z n i) j) (14 + 16 * j + 3) (idlP (ewkZ (pZ z n i) j) j)) kp wr).set 1 (ma, .inl (cI, 64, .inl (upd (mfn (upd (ewkZ (pZ z n i) j) (14 + 16 * j + 3) (idlP (ewkZ (pZ z n i) j) j))) q_ 0)))) (lw_wm (show 16 * j + 4 < 64 by omega) (show 14 + (16 * j + 4) = 14 + 16 * j + 4 by omega))))) (fun H locs hP hD hS => ?_)
                refine lv_aload hx hb dL_bank_120 (lv_at hl 4 rfl) ?_
                refine lv_bipush (v := 16) hx hb dL_bank_122 (by decide) ?_
                refine lv_iload hx hb dL_bank_124 (lv_at hl 10 rfl) ?_
                refine lv_imul hx hb dL_bank_126 ?_
                refine z_top (v2 := .int (nI (16 * j))) (congrArg Value.int (pk_mul 16 j)) ?_
                refine lv_iconst (v := 3) hx hb dL_bank_127 (by decide) ?_
                refine lv_iadd hx hb dL_bank_128  ?_
                refine z_top (v2 := .int (nI (16 * j + 3))) (congrArg Value.int (nI_add (16 * j) 3)) ?_
                refine va_iald hx hb hK hP (139 + (1)) 0 ((xw_r).trans (lw_1)) rfl (vp_in_nI (show 16 * j + 3 < 64 by omega) (by omega)) dL_bank_129 ?_
                refine z_top (v2 := .int (idlP (ewkZ (pZ z n i) j) j)) (congrArg Value.int ((lm_at rfl (show 16 * j + 3 < 64 by omega) (show 14 + (16 * j + 3) = 14 + 16 * j + 3 by omega)).trans ((upd_ne (by omega)).trans (upd_eq rfl)))) ?_
                refine lv_aload_n hx hb dL_bank_130 rfl (lv_at hl 3 rfl) ?_
                refine lv_bipush (v := 8) hx hb dL_bank_131 (by decide) ?_
                refine va_iald hx hb hK hP (139 + (0)) 0 ((xw_r).trans (lw_0)) rfl (vp_in_nI (show 8 < 15 by decide) (by omega)) dL_bank_133 ?_
                refine z_top (v2 := .int (ewkZ (pZ z n i) j 2)) (congrArg Value.int ((nf_8 rfl).trans ((upd_ne (by omega)).trans ((upd_ne (by omega)).trans (rfl))))) ?_
                refine lv_icmp_gt (tgt := 140) hx hb dL_bank_134 (by decide) (fun c33 => ?_) (fun c33 => ?_)
                · skip
                  refine lv_aload hx hb dL_bank_140 (lv_at hl 4 rfl) ?_
                  refine lv_bipush (v := 16) hx hb dL_bank_142 (by decide) ?_
                  refine lv_iload hx hb dL_bank_144 (lv_at hl 10 rfl) ?_
                  refine lv_imul hx hb dL_bank_146 ?_
                  refine z_top (v2 := .int (nI (16 * j))) (congrArg Value.int (pk_mul 16 j)) ?_
                  refine lv_iconst (v := 1) hx hb dL_bank_147 (by decide) ?_
                  refine lv_iadd hx hb dL_bank_148  ?_
                  refine z_top (v2 := .int (nI (16 * j + 1))) (congrArg Value.int (nI_add (16 * j) 1)) ?_
                  refine va_iald hx hb hK hP (139 + (1)) 0 ((xw_r).trans (lw_1)) rfl (vp_in_nI (show 16 * j + 1 < 64 by omega) (by omega)) dL_bank_149 ?_
                  refine z_top (v2 := .int (ewkZ (pZ z n i) j (14 + 16 * j + 1))) (congrArg Value.int ((lm_at rfl (show 16 * j + 1 < 64 by omega) (show 14 + (16 * j + 1) = 14 + 16 * j + 1 by omega)).trans ((upd_ne (by omega)).trans ((upd_ne (by omega)).trans (rfl))))) ?_
                  have J175_0 : ∀ (H : Heap) (locs : List Loc), va_P D vwCl (xw0 cI cC cM cB ad z t sg sz r x h ah (nI nx) (nI kp) zh (lwS cI na ma (upd (upd (ewkZ (pZ z n i) j) (14 + 16 * j + 3) (idlP (ewkZ (pZ z n i) j) j)) (14 + 16 * j + 4) 0) kp wr)) H → va_D A (xw0 cI cC cM cB ad z t sg sz r x h ah (nI nx) (nI kp) zh (lwS cI na ma (upd (upd (ewkZ (pZ z n i) j) (14 + 16 * j + 3) (idlP (ewkZ (pZ z n i) j) j)) (14 + 16 * j + 4) 0) kp wr)) → va_S A s.heap H locs → ∀ ls : Array Slot, lv_has ls 13 [(0, .ref x), (1, .int xv), (2, .int yv), (3, .ref na), (4, .ref ma), (5, .int (atP xv 6)), (6, .int (nI a)), (7, .int (nI (1 + w_))), (8, .int (pS z n i + ewkR (pZ z n i) j)), (9, .int (nI i)), (10, .int (nI j))] → W p l e ({ frames := 7, cells := 1, slots := 6, locals := 113 } : Room) s m ([.ref x, .int xv, .int yv, .ref na, .ref ma] : List Value).toArray below meth c H locs 0 0 (MQ below (zRQ D (zT cI cC cM cB cJ) (pG cI cC cM cB ad t sg sz r x h ah na ma wr (k + 1)) (some (.int 1)) A) ([.ref x, .int xv, .int yv, .ref na, .ref ma] : List Value).toArray s 1 6 A) (F0 m 175 ls [.int (decP ((ewkZ (pZ z n i) j) (14 + 16 * j + 1)) ((ewkZ (pZ z n i) j) 3))]) := by
                    intro H locs hP hD hS ls hl
                    refine lv_istore (lv' := [(11, .int (decP ((ewkZ (pZ z n i) j) (14 + 16 * j + 1)) ((ewkZ (pZ z n i) j) 3))), (0, .ref x), (1, .int xv), (2, .int yv), (3, .ref na), (4, .ref ma), (5, .int (atP xv 6)), (6, .int (nI a)), (7, .int (nI (1 + w_))), (8, .int (pS z n i + ewkR (pZ z n i) j)), (9, .int (nI i)), (10, .int (nI j))]) hx hb dL_bank_175 hl (by decide) rfl (fun ls hl => ?_)
                    refine lv_aload hx hb dL_bank_177 (lv_at hl 5 rfl) ?_
                    refine lv_bipush (v := 16) hx hb dL_bank_179 (by decide) ?_
                    refine lv_iload hx hb dL_bank_181 (lv_at hl 11 rfl) ?_
                    refine lv_imul hx hb dL_bank_183 ?_
                    refine z_top (v2 := .int (nI (16 * j))) (congrArg Value.int (pk_mul 16 j)) ?_
                    refine lv_iconst (v := 1) hx hb dL_bank_184 (by decide) ?_
                    refine lv_iadd hx hb dL_bank_185  ?_
                    refine z_top (v2 := .int (nI (16 * j + 1))) (congrArg Value.int (nI_add (16 * j) 1)) ?_
                    refine lv_dup2_11 hx hb dL_bank_186 rfl rfl ?_
                    refine va_iald hx hb hK hP (139 + (1)) 0 ((xw_r).trans (lw_1)) rfl (vp_in_nI (show 16 * j + 1 < 64 by omega) (by omega)) dL_bank_187 ?_
                    refine z_top (v2 := .int (ewkZ (pZ z n i) j (14 + 16 * j + 1))) (congrArg Value.int ((lm_at rfl (show 16 * j + 1 < 64 by omega) (show 14 + (16 * j + 1) = 14 + 16 * j + 1 by omega)).trans ((upd_ne (by omega)).trans ((upd_ne (by omega)).trans (rfl))))) ?_
                    refine lv_iload hx hb dL_bank_188 (lv_at hl 0 rfl) ?_
                    refine lv_isub hx hb dL_bank_190  ?_
                    refine z_iast (ws2 := xw0 cI cC cM cB ad z t sg sz r x h ah (nI nx) (nI kp) zh (lwS cI na ma (upd (upd (upd (ewkZ (pZ z n i) j) (14 + 16 * j + 3) (idlP (ewkZ (pZ z n i) j) j)) (14 + 16 * j + 4) 0) (14 + 16 * j + 1) ((ewkZ (pZ z n i) j (14 + 16 * j + 1)) - (decP ((ewkZ (pZ z n i) j) (14 + 16 * j + 1)) ((ewkZ (pZ z n i) j) 3)))) kp wr)) hx hb hK hP hD hS (139 + (1)) 0 ((xw_r).trans (lw_1)) rfl (vp_in_nI (show 16 * j + 1 < 64 by omega) (by omega)) dL_bank_191 ((xw_rs).trans (congrArg (fun w_ => xw0 cI cC cM cB ad z t sg sz r x h ah (nI nx) (nI kp) zh w_) (z_ixw rfl (show 16 * j + 1 < 2 ^ 31 by omega) (fun q_ => (lwS cI na ma (upd (upd (ewkZ (pZ z n i) j) (14 + 16 * j + 3) (idlP (ewkZ (pZ z n i) j) j)) (14 + 16 * j + 4) 0) kp wr).set 1 (ma, .inl (cI, 64, .inl (upd (mfn (upd (upd (ewkZ (pZ z n i) j) (14 + 16 * j + 3) (idlP (ewkZ (pZ z n i) j) j)) (14 + 16 * j + 4) 0)) q_ ((ewkZ (pZ z n i) j (14 + 16 * j + 1)) - (decP ((ewkZ (pZ z n i) j) (14 + 16 * j + 1)) ((ewkZ (pZ z n i) j) 3))))))) (lw_wm (show 16 * j + 1 < 64 by omega) (show 14 + (16 * j + 1) = 14 + 16 * j + 1 by omega))))) (fun H locs hP hD hS => ?_)
                    refine lv_aload hx hb dL_bank_192 (lv_at hl 5 rfl) ?_
                    refine lv_bipush (v := 16) hx hb dL_bank_194 (by decide) ?_
                    refine lv_iload hx hb dL_bank_196 (lv_at hl 11 rfl) ?_
                    refine lv_imul hx hb dL_bank_198 ?_
                    refine z_top (v2 := .int (nI (16 * j))) (congrArg Value.int (pk_mul 16 j)) ?_
                    refine lv_bipush (v := 9) hx hb dL_bank_199 (by decide) ?_
                    refine lv_iadd hx hb dL_bank_201  ?_
                    refine z_top (v2 := .int (nI (16 * j + 9))) (congrArg Value.int (nI_add (16 * j) 9)) ?_
                    refine lv_dup2_11 hx hb dL_bank_202 rfl rfl ?_
                    refine va_iald hx hb hK hP (139 + (1)) 0 ((xw_r).trans (lw_1)) rfl (vp_in_nI (show 16 * j + 9 < 64 by omega) (by omega)) dL_bank_203 ?_
                    refine z_top (v2 := .int (ewkZ (pZ z n i) j (14 + 16 * j + 9))) (congrArg Value.int ((lm_at rfl (show 16 * j + 9 < 64 by omega) (show 14 + (16 * j + 9) = 14 + 16 * j + 9 by omega)).trans ((upd_ne (by omega)).trans ((upd_ne (by omega)).trans ((upd_ne (by omega)).trans (rfl)))))) ?_
                    refine lv_iload hx hb dL_bank_204 (lv_at hl 0 rfl) ?_
                    refine lv_iadd hx hb dL_bank_206  ?_
                    refine z_iast (ws2 := xw0 cI cC cM cB ad z t sg sz r x h ah (nI nx) (nI kp) zh (lwS cI na ma (upd (upd (upd (upd (ewkZ (pZ z n i) j) (14 + 16 * j + 3) (idlP (ewkZ (pZ z n i) j) j)) (14 + 16 * j + 4) 0) (14 + 16 * j + 1) ((ewkZ (pZ z n i) j (14 + 16 * j + 1)) - (decP ((ewkZ (pZ z n i) j) (14 + 16 * j + 1)) ((ewkZ (pZ z n i) j) 3)))) (14 + 16 * j + 9) ((ewkZ (pZ z n i) j (14 + 16 * j + 9)) + (decP ((ewkZ (pZ z n i) j) (14 + 16 * j + 1)) ((ewkZ (pZ z n i) j) 3)))) kp wr)) hx hb hK hP hD hS (139 + (1)) 0 ((xw_r).trans (lw_1)) rfl (vp_in_nI (show 16 * j + 9 < 64 by omega) (by omega)) dL_bank_207 ((xw_rs).trans (congrArg (fun w_ => xw0 cI cC cM cB ad z t sg sz r x h ah (nI nx) (nI kp) zh w_) (z_ixw rfl (show 16 * j + 9 < 2 ^ 31 by omega) (fun q_ => (lwS cI na ma (upd (upd (upd (ewkZ (pZ z n i) j) (14 + 16 * j + 3) (idlP (ewkZ (pZ z n i) j) j)) (14 + 16 * j + 4) 0) (14 + 16 * j + 1) ((ewkZ (pZ z n i) j (14 + 16 * j + 1)) - (decP ((ewkZ (pZ z n i) j) (14 + 16 * j + 1)) ((ewkZ (pZ z n i) j) 3)))) kp wr).set 1 (ma, .inl (cI, 64, .inl (upd (mfn (upd (upd (upd (ewkZ (pZ z n i) j) (14 + 16 * j + 3) (idlP (ewkZ (pZ z n i) j) j)) (14 + 16 * j + 4) 0) (14 + 16 * j + 1) ((ewkZ (pZ z n i) j (14 + 16 * j + 1)) - (decP ((ewkZ (pZ z n i) j) (14 + 16 * j + 1)) ((ewkZ (pZ z n i) j) 3))))) q_ ((ewkZ (pZ z n i) j (14 + 16 * j + 9)) + (decP ((ewkZ (pZ z n i) j) (14 + 16 * j + 1)) ((ewkZ (pZ z n i) j) 3))))))) (lw_wm (show 16 * j + 9 < 64 by omega) (show 14 + (16 * j + 9) = 14 + 16 * j + 9 by omega))))) (fun H locs hP hD hS => ?_)
                    refine lv_aload_n hx hb dL_bank_208 rfl (lv_at hl 4 rfl) ?_
                    refine lv_iconst (v := 1) hx hb dL_bank_209 (by decide) ?_
                    refine lv_dup2_11 hx hb dL_bank_210 rfl rfl ?_
                    refine va_iald hx hb hK hP (139 + (0)) 0 ((xw_r).trans (lw_0)) rfl (vp_in_nI (show 1 < 15 by decide) (by omega)) dL_bank_211 ?_
                    refine z_top (v2 := .int (ewkZ (pZ z n i) j 6)) (congrArg Value.int ((nf_1 rfl).trans ((upd_ne (by omega)).trans ((upd_ne (by omega)).trans ((upd_ne (by omega)).trans ((upd_ne (by omega)).trans (rfl))))))) ?_
                    refine lv_iload hx hb dL_bank_212 (lv_at hl 0 rfl) ?_
                    refine lv_iadd hx hb dL_bank_214  ?_
                    refine z_iast (ws2 := xw0 cI cC cM cB ad z t sg sz r x h ah (nI nx) (nI kp) zh (lwS cI na ma (upd (upd (upd (upd (upd (ewkZ (pZ z n i) j) (14 + 16 * j + 3) (idlP (ewkZ (pZ z n i) j) j)) (14 + 16 * j + 4) 0) (14 + 16 * j + 1) ((ewkZ (pZ z n i) j (14 + 16 * j + 1)) - (decP ((ewkZ (pZ z n i) j) (14 + 16 * j + 1)) ((ewkZ (pZ z n i) j) 3)))) (14 + 16 * j + 9) ((ewkZ (pZ z n i) j (14 + 16 * j + 9)) + (decP ((ewkZ (pZ z n i) j) (14 + 16 * j + 1)) ((ewkZ (pZ z n i) j) 3)))) 6 ((ewkZ (pZ z n i) j 6) + (decP ((ewkZ (pZ z n i) j) (14 + 16 * j + 1)) ((ewkZ (pZ z n i) j) 3)))) kp wr)) hx hb hK hP hD hS (139 + (0)) 0 ((xw_r).trans (lw_0)) rfl (vp_in_nI (show 1 < 15 by decide) (by omega)) dL_bank_215 ((xw_rs).trans (congrArg (fun w_ => xw0 cI cC cM cB ad z t sg sz r x h ah (nI nx) (nI kp) zh w_) (z_ixw (k := 1) rfl (by omega) (fun q_ => (lwS cI na ma (upd (upd (upd (upd (ewkZ (pZ z n i) j) (14 + 16 * j + 3) (idlP (ewkZ (pZ z n i) j) j)) (14 + 16 * j + 4) 0) (14 + 16 * j + 1) ((ewkZ (pZ z n i) j (14 + 16 * j + 1)) - (decP ((ewkZ (pZ z n i) j) (14 + 16 * j + 1)) ((ewkZ (pZ z n i) j) 3)))) (14 + 16 * j + 9) ((ewkZ (pZ z n i) j (14 + 16 * j + 9)) + (decP ((ewkZ (pZ z n i) j) (14 + 16 * j + 1)) ((ewkZ (pZ z n i) j) 3)))) kp wr).set 0 (na, .inl (cI, 15, .inl (upd (nfn (upd (upd (upd (upd (ewkZ (pZ z n i) j) (14 + 16 * j + 3) (idlP (ewkZ (pZ z n i) j) j)) (14 + 16 * j + 4) 0) (14 + 16 * j + 1) ((ewkZ (pZ z n i) j (14 + 16 * j + 1)) - (decP ((ewkZ (pZ z n i) j) (14 + 16 * j + 1)) ((ewkZ (pZ z n i) j) 3)))) (14 + 16 * j + 9) ((ewkZ (pZ z n i) j (14 + 16 * j + 9)) + (decP ((ewkZ (pZ z n i) j) (14 + 16 * j + 1)) ((ewkZ (pZ z n i) j) 3)))) kp) q_ ((ewkZ (pZ z n i) j 6) + (decP ((ewkZ (pZ z n i) j) (14 + 16 * j + 1)) ((ewkZ (pZ z n i) j) 3))))))) (lw_wx (by decide) (by decide) rfl)))) (fun H locs hP hD hS => ?_)
                    refine lv_iload hx hb dL_bank_216 (lv_at hl 9 rfl) ?_
                    refine lv_iload hx hb dL_bank_218 (lv_at hl 0 rfl) ?_
                    refine lv_iadd hx hb dL_bank_220  ?_
                    refine lv_istore (lv' := [(8, .int ((pS z n i + ewkR (pZ z n i) j) + (decP ((ewkZ (pZ z n i) j) (14 + 16 * j + 1)) ((ewkZ (pZ z n i) j) 3)))), (11, .int (decP ((ewkZ (pZ z n i) j) (14 + 16 * j + 1)) ((ewkZ (pZ z n i) j) 3))), (0, .ref x), (1, .int xv), (2, .int yv), (3, .ref na), (4, .ref ma), (5, .int (atP xv 6)), (6, .int (nI a)), (7, .int (nI (1 + w_))), (9, .int (nI i)), (10, .int (nI j))]) hx hb dL_bank_221 hl (by decide) rfl (fun ls hl => ?_)
                    refine lv_bipush (v := 11) hx hb dL_bank_223 (by decide) ?_
                    refine lv_istore (lv' := [(12, .int 11), (8, .int ((pS z n i + ewkR (pZ z n i) j) + (decP ((ewkZ (pZ z n i) j) (14 + 16 * j + 1)) ((ewkZ (pZ z n i) j) 3)))), (11, .int (decP ((ewkZ (pZ z n i) j) (14 + 16 * j + 1)) ((ewkZ (pZ z n i) j) 3))), (0, .ref x), (1, .int xv), (2, .int yv), (3, .ref na), (4, .ref ma), (5, .int (atP xv 6)), (6, .int (nI a)), (7, .int (nI (1 + w_))), (9, .int (nI i)), (10, .int (nI j))]) hx hb dL_bank_225 hl (by decide) rfl (fun ls hl => ?_)
                    have K227 : ∀ (n227 q : Nat), q + n227 = 5 → ∀ (H : Heap) (locs : List Loc), va_P D vwCl (xw0 cI cC cM cB ad z t sg sz r x h ah (nI nx) (nI kp) zh (lwS cI na ma (rustZ (ewL (ewkZ (pZ z n i) j) j) j ((ewkZ (pZ z n i) j) 4) q) kp wr)) H → va_D A (xw0 cI cC cM cB ad z t sg sz r x h ah (nI nx) (nI kp) zh (lwS cI na ma (rustZ (ewL (ewkZ (pZ z n i) j) j) j ((ewkZ (pZ z n i) j) 4) q) kp wr)) → va_S A s.heap H locs → ∀ ls : Array Slot, lv_has ls 13 [(0, .ref x), (1, .int xv), (2, .int yv), (3, .ref na), (4, .ref ma), (5, .int (atP xv 6)), (6, .int (nI a)), (7, .int (nI (1 + w_))), (8, .int ((pS z n i + ewkR (pZ z n i) j) + (decP ((ewkZ (pZ z n i) j) (14 + 16 * j + 1)) ((ewkZ (pZ z n i) j) 3)))), (9, .int (nI i)), (10, .int (nI j)), (11, .int (decP ((ewkZ (pZ z n i) j) (14 + 16 * j + 1)) ((ewkZ (pZ z n i) j) 3))), (12, .int (nI (11 + q)))] → W p l e ({ frames := 7, cells := 1, slots := 6, locals := 113 } : Room) s m ([.ref x, .int xv, .int yv, .ref na, .ref ma] : List Value).toArray below meth c H locs 0 0 (MQ below (zRQ D (zT cI cC cM cB cJ) (pG cI cC cM cB ad t sg sz r x h ah na ma wr (k + 1)) (some (.int 1)) A) ([.ref x, .int xv, .int yv, .ref na, .ref ma] : List Value).toArray s 1 6 A) (F0 m 227 ls []) := by
                      intro n227
                      induction n227 with
                      | zero =>
                        intro q h_q H locs hP hD hS ls hl
                        have eq : 5 = q := by omega
                        subst eq
                        refine lv_iload hx hb dL_bank_227 (lv_at hl 12 rfl) ?_
                        refine lv_bipush (v := 16) hx hb dL_bank_229 (by decide) ?_
                        refine lv_icmp_ge (tgt := 289) hx hb dL_bank_231 (by decide) (fun c34 => ?_) (fun c34 => absurd (nI_le (a := 16) (b := 11 + 5) (by omega) (by omega)) c34)
                        have c34 := z_nlt c34
                        refine lv_iinc (v := nI (j + 1)) (lv' := [(10, .int (nI (j + 1))), (0, .ref x), (1, .int xv), (2, .int yv), (3, .ref na), (4, .ref ma), (5, .int (atP xv 6)), (6, .int (nI a)), (7, .int (nI (1 + w_))), (8, .int ((pS z n i + ewkR (pZ z n i) j) + (decP ((ewkZ (pZ z n i) j) (14 + 16 * j + 1)) ((ewkZ (pZ z n i) j) 3)))), (9, .int (nI i)), (11, .int (decP ((ewkZ (pZ z n i) j) (14 + 16 * j + 1)) ((ewkZ (pZ z n i) j) 3))), (12, .int (nI (11 + 5)))]) hx hb dL_bank_289 hl (k := 10) rfl (nI_1 _) (by decide) rfl (fun ls hl => ?_)
                        refine lv_goto (tgt := 49) hx hb dL_bank_292 (by decide) ?_
                        have hl := (congrArg (fun qv_ => lv_has ls 13 [(10, .int (nI (j + 1))), (0, .ref x), (1, .int xv), (2, .int yv), (3, .ref na), (4, .ref ma), (5, .int (atP xv 6)), (6, .int (nI a)), (7, .int (nI (1 + w_))), (8, qv_), (9, .int (nI i)), (11, .int (decP ((ewkZ (pZ z n i) j) (14 + 16 * j + 1)) ((ewkZ (pZ z n i) j) 3))), (12, .int (nI (11 + 5)))]) (show Value.int ((pS z n i + ewkR (pZ z n i) j) + (decP ((ewkZ (pZ z n i) j) (14 + 16 * j + 1)) ((ewkZ (pZ z n i) j) 3))) = .int (pS z n i + ewkR (pZ z n i) (j + 1)) from congrArg Value.int ((Int32.add_assoc ..).trans (congrArg (fun q_ => pS z n i + q_) (ewk_full c32 c33).2)))).mp hl
                        have hP := va_P_eq (w2 := xw0 cI cC cM cB ad z t sg sz r x h ah (nI nx) (nI kp) zh (lwS cI na ma (ewkZ (pZ z n i) (j + 1)) kp wr)) (congrArg (fun q_ => xw0 cI cC cM cB ad z t sg sz r x h ah (nI nx) (nI kp) zh (lwS cI na ma q_ kp wr)) (ewk_full c32 c33).1) hP
                        have hD := va_D_eq (w2 := xw0 cI cC cM cB ad z t sg sz r x h ah (nI nx) (nI kp) zh (lwS cI na ma (ewkZ (pZ z n i) (j + 1)) kp wr)) (congrArg (fun q_ => xw0 cI cC cM cB ad z t sg sz r x h ah (nI nx) (nI kp) zh (lwS cI na ma q_ kp wr)) (ewk_full c32 c33).1) hD
                        exact ih49 (j + 1) (by omega) _ _ hP hD hS ls (lv_sub hl [1, 2, 3, 4, 5, 6, 7, 8, 9, 10, 0] rfl)
                      | succ n227 ih227 =>
                        intro q h_q H locs hP hD hS ls hl
                        have lq : q < 5 := by omega
                        refine lv_iload hx hb dL_bank_227 (lv_at hl 12 rfl) ?_
                        refine lv_bipush (v := 16) hx hb dL_bank_229 (by decide) ?_
                        refine lv_icmp_ge (tgt := 289) hx hb dL_bank_231 (by decide) (fun c35 => absurd c35 (nI_ge (a := 11 + q) (b := 16) (by omega) (by omega))) (fun c35 => ?_)
                        have c35 := z_lt c35
                        refine lv_aload hx hb dL_bank_234 (lv_at hl 4 rfl) ?_
                        refine lv_bipush (v := 16) hx hb dL_bank_236 (by decide) ?_
                        refine lv_iload hx hb dL_bank_238 (lv_at hl 10 rfl) ?_
                        refine lv_imul hx hb dL_bank_240 ?_
                        refine z_top (v2 := .int (nI (16 * j))) (congrArg Value.int (pk_mul 16 j)) ?_
                        refine lv_iload hx hb dL_bank_241 (lv_at hl 12 rfl) ?_
                        refine lv_iadd hx hb dL_bank_243  ?_
                        refine z_top (v2 := .int (nI (16 * j + (11 + q)))) (congrArg Value.int (nI_add (16 * j) (11 + q))) ?_
                        refine lv_aload hx hb dL_bank_244 (lv_at hl 4 rfl) ?_
                        refine lv_bipush (v := 16) hx hb dL_bank_246 (by decide) ?_
                        refine lv_iload hx hb dL_bank_248 (lv_at hl 10 rfl) ?_
                        refine lv_imul hx hb dL_bank_250 ?_
                        refine z_top (v2 := .int (nI (16 * j))) (congrArg Value.int (pk_mul 16 j)) ?_
                        refine lv_iload hx hb dL_bank_251 (lv_at hl 12 rfl) ?_
                        refine lv_iadd hx hb dL_bank_253  ?_
                        refine z_top (v2 := .int (nI (16 * j + (11 + q)))) (congrArg Value.int (nI_add (16 * j) (11 + q))) ?_
                        refine va_iald hx hb hK hP (139 + (1)) 0 ((xw_r).trans (lw_1)) rfl (vp_in_nI (show 16 * j + (11 + q) < 64 by omega) (by omega)) dL_bank_254 ?_
                        refine z_top (v2 := .int ((ewkZ (pZ z n i) j) (25 + 16 * j + q))) (congrArg Value.int ((lm_at rfl (show 16 * j + (11 + q) < 64 by omega) (show 14 + (16 * j + (11 + q)) = 25 + 16 * j + q by omega)).trans ((rustZ_at q (by omega)).trans ewL_p))) ?_
                        refine lv_aload_n hx hb dL_bank_255 rfl (lv_at hl 3 rfl) ?_
                        refine lv_bipush (v := 10) hx hb dL_bank_256 (by decide) ?_
                        refine va_iald hx hb hK hP (139 + (0)) 0 ((xw_r).trans (lw_0)) rfl (vp_in_nI (show 10 < 15 by decide) (by omega)) dL_bank_258 ?_
                        refine z_top (v2 := .int ((ewkZ (pZ z n i) j) 4)) (congrArg Value.int ((nf_10 rfl).trans ((rustZ_at q (by omega)).trans ewL_4))) ?_
                        have J282_0 : ∀ (H : Heap) (locs : List Loc), va_P D vwCl (xw0 cI cC cM cB ad z t sg sz r x h ah (nI nx) (nI kp) zh (lwS cI na ma (rustZ (ewL (ewkZ (pZ z n i) j) j) j ((ewkZ (pZ z n i) j) 4) q) kp wr)) H → va_D A (xw0 cI cC cM cB ad z t sg sz r x h ah (nI nx) (nI kp) zh (lwS cI na ma (rustZ (ewL (ewkZ (pZ z n i) j) j) j ((ewkZ (pZ z n i) j) 4) q) kp wr)) → va_S A s.heap H locs → ∀ ls : Array Slot, lv_has ls 13 [(0, .ref x), (1, .int xv), (2, .int yv), (3, .ref na), (4, .ref ma), (5, .int (atP xv 6)), (6, .int (nI a)), (7, .int (nI (1 + w_))), (8, .int ((pS z n i + ewkR (pZ z n i) j) + (decP ((ewkZ (pZ z n i) j) (14 + 16 * j + 1)) ((ewkZ (pZ z n i) j) 3)))), (9, .int (nI i)), (10, .int (nI j)), (11, .int (decP ((ewkZ (pZ z n i) j) (14 + 16 * j + 1)) ((ewkZ (pZ z n i) j) 3))), (12, .int (nI (11 + q)))] → W p l e ({ frames := 7, cells := 1, slots := 6, locals := 113 } : Room) s m ([.ref x, .int xv, .int yv, .ref na, .ref ma] : List Value).toArray below meth c H locs 0 0 (MQ below (zRQ D (zT cI cC cM cB cJ) (pG cI cC cM cB ad t sg sz r x h ah na ma wr (k + 1)) (some (.int 1)) A) ([.ref x, .int xv, .int yv, .ref na, .ref ma] : List Value).toArray s 1 6 A) (F0 m 282 ls [.int (maxP ((ewkZ (pZ z n i) j) (25 + 16 * j + q) - (ewkZ (pZ z n i) j) 4) 0), .int (nI (16 * j + (11 + q))), .ref ma]) := by
                          intro H locs hP hD hS ls hl
                          refine z_iast (ws2 := xw0 cI cC cM cB ad z t sg sz r x h ah (nI nx) (nI kp) zh (lwS cI na ma (upd (rustZ (ewL (ewkZ (pZ z n i) j) j) j ((ewkZ (pZ z n i) j) 4) q) (25 + 16 * j + q) (maxP ((ewkZ (pZ z n i) j) (25 + 16 * j + q) - (ewkZ (pZ z n i) j) 4) 0)) kp wr)) hx hb hK hP hD hS (139 + (1)) 0 ((xw_r).trans (lw_1)) rfl (vp_in_nI (show 16 * j + (11 + q) < 64 by omega) (by omega)) dL_bank_282 ((xw_rs).trans (congrArg (fun w_ => xw0 cI cC cM cB ad z t sg sz r x h ah (nI nx) (nI kp) zh w_) (z_ixw rfl (show 16 * j + (11 + q) < 2 ^ 31 by omega) (fun q_ => (lwS cI na ma (rustZ (ewL (ewkZ (pZ z n i) j) j) j ((ewkZ (pZ z n i) j) 4) q) kp wr).set 1 (ma, .inl (cI, 64, .inl (upd (mfn (rustZ (ewL (ewkZ (pZ z n i) j) j) j ((ewkZ (pZ z n i) j) 4) q)) q_ (maxP ((ewkZ (pZ z n i) j) (25 + 16 * j + q) - (ewkZ (pZ z n i) j) 4) 0))))) (lw_wm (show 16 * j + (11 + q) < 64 by omega) (show 14 + (16 * j + (11 + q)) = 25 + 16 * j + q by omega))))) (fun H locs hP hD hS => ?_)
                          refine lv_iinc (v := nI (11 + (q + 1))) (lv' := [(12, .int (nI (11 + (q + 1)))), (0, .ref x), (1, .int xv), (2, .int yv), (3, .ref na), (4, .ref ma), (5, .int (atP xv 6)), (6, .int (nI a)), (7, .int (nI (1 + w_))), (8, .int ((pS z n i + ewkR (pZ z n i) j) + (decP ((ewkZ (pZ z n i) j) (14 + 16 * j + 1)) ((ewkZ (pZ z n i) j) 3)))), (9, .int (nI i)), (10, .int (nI j)), (11, .int (decP ((ewkZ (pZ z n i) j) (14 + 16 * j + 1)) ((ewkZ (pZ z n i) j) 3)))]) hx hb dL_bank_283 hl (k := 12) rfl (nI_1 (11 + q)) (by decide) rfl (fun ls hl => ?_)
                          refine lv_goto (tgt := 227) hx hb dL_bank_286 (by decide) ?_
                          have hP := va_P_eq (w2 := xw0 cI cC cM cB ad z t sg sz r x h ah (nI nx) (nI kp) zh (lwS cI na ma (rustZ (ewL (ewkZ (pZ z n i) j) j) j ((ewkZ (pZ z n i) j) 4) (q + 1)) kp wr)) (congrArg (fun q_ => xw0 cI cC cM cB ad z t sg sz r x h ah (nI nx) (nI kp) zh (lwS cI na ma q_ kp wr)) rust_s) hP
                          have hD := va_D_eq (w2 := xw0 cI cC cM cB ad z t sg sz r x h ah (nI nx) (nI kp) zh (lwS cI na ma (rustZ (ewL (ewkZ (pZ z n i) j) j) j ((ewkZ (pZ z n i) j) 4) (q + 1)) kp wr)) (congrArg (fun q_ => xw0 cI cC cM cB ad z t sg sz r x h ah (nI nx) (nI kp) zh (lwS cI na ma q_ kp wr)) rust_s) hD
                          exact ih227 (q + 1) (by omega) _ _ hP hD hS ls (lv_sub hl [1, 2, 3, 4, 5, 6, 7, 8, 9, 10, 11, 12, 0] rfl)
                        refine lv_icmp_ge (tgt := 266) hx hb dL_bank_259 (by decide) (fun c36 => ?_) (fun c36 => ?_)
                        · have c36 := z_nlt c36
                          refine lv_aload hx hb dL_bank_266 (lv_at hl 4 rfl) ?_
                          refine lv_bipush (v := 16) hx hb dL_bank_268 (by decide) ?_
                          refine lv_iload hx hb dL_bank_270 (lv_at hl 10 rfl) ?_
                          refine lv_imul hx hb dL_bank_272 ?_
                          refine z_top (v2 := .int (nI (16 * j))) (congrArg Value.int (pk_mul 16 j)) ?_
                          refine lv_iload hx hb dL_bank_273 (lv_at hl 12 rfl) ?_
                          refine lv_iadd hx hb dL_bank_275  ?_
                          refine z_top (v2 := .int (nI (16 * j + (11 + q)))) (congrArg Value.int (nI_add (16 * j) (11 + q))) ?_
                          refine va_iald hx hb hK hP (139 + (1)) 0 ((xw_r).trans (lw_1)) rfl (vp_in_nI (show 16 * j + (11 + q) < 64 by omega) (by omega)) dL_bank_276 ?_
                          refine z_top (v2 := .int ((ewkZ (pZ z n i) j) (25 + 16 * j + q))) (congrArg Value.int ((lm_at rfl (show 16 * j + (11 + q) < 64 by omega) (show 14 + (16 * j + (11 + q)) = 25 + 16 * j + q by omega)).trans ((rustZ_at q (by omega)).trans ewL_p))) ?_
                          refine lv_aload_n hx hb dL_bank_277 rfl (lv_at hl 3 rfl) ?_
                          refine lv_bipush (v := 10) hx hb dL_bank_278 (by decide) ?_
                          refine va_iald hx hb hK hP (139 + (0)) 0 ((xw_r).trans (lw_0)) rfl (vp_in_nI (show 10 < 15 by decide) (by omega)) dL_bank_280 ?_
                          refine z_top (v2 := .int ((ewkZ (pZ z n i) j) 4)) (congrArg Value.int ((nf_10 rfl).trans ((rustZ_at q (by omega)).trans ewL_4))) ?_
                          refine lv_isub hx hb dL_bank_281  ?_
                          refine z_top (v2 := .int (maxP ((ewkZ (pZ z n i) j) (25 + 16 * j + q) - (ewkZ (pZ z n i) j) 4) 0)) (congrArg Value.int (rust_b (wk_p (by omega) hR (by omega) (by omega)) (wk_r hR) c36)) ?_
                          exact J282_0 _ _ hP hD hS ls (lv_sub hl [0, 1, 2, 3, 4, 5, 6, 7, 8, 9, 10, 11, 12] rfl)
                        · have c36 := z_lt c36
                          refine lv_iconst (v := 0) hx hb dL_bank_262 (by decide) ?_
                          refine lv_goto (tgt := 282) hx hb dL_bank_263 (by decide) ?_
                          refine z_top (v2 := .int (maxP ((ewkZ (pZ z n i) j) (25 + 16 * j + q) - (ewkZ (pZ z n i) j) 4) 0)) (congrArg Value.int (rust_a (wk_p (by omega) hR (by omega) (by omega)) (wk_r hR) c36)) ?_
                          exact J282_0 _ _ hP hD hS ls (lv_sub hl [0, 1, 2, 3, 4, 5, 6, 7, 8, 9, 10, 11, 12] rfl)
                    have hl := (congrArg (fun qv_ => lv_has ls 13 [(12, qv_), (8, .int ((pS z n i + ewkR (pZ z n i) j) + (decP ((ewkZ (pZ z n i) j) (14 + 16 * j + 1)) ((ewkZ (pZ z n i) j) 3)))), (11, .int (decP ((ewkZ (pZ z n i) j) (14 + 16 * j + 1)) ((ewkZ (pZ z n i) j) 3))), (0, .ref x), (1, .int xv), (2, .int yv), (3, .ref na), (4, .ref ma), (5, .int (atP xv 6)), (6, .int (nI a)), (7, .int (nI (1 + w_))), (9, .int (nI i)), (10, .int (nI j))]) (show Value.int 11 = .int (nI (11 + 0)) from congrArg Value.int (by rfl))).mp hl
                    have hP := va_P_eq (w2 := xw0 cI cC cM cB ad z t sg sz r x h ah (nI nx) (nI kp) zh (lwS cI na ma (rustZ (ewL (ewkZ (pZ z n i) j) j) j ((ewkZ (pZ z n i) j) 4) 0) kp wr)) (congrArg (fun q_ => xw0 cI cC cM cB ad z t sg sz r x h ah (nI nx) (nI kp) zh (lwS cI na ma q_ kp wr)) (show upd (upd (upd (upd (upd (ewkZ (pZ z n i) j) (14 + 16 * j + 3) (idlP (ewkZ (pZ z n i) j) j)) (14 + 16 * j + 4) 0) (14 + 16 * j + 1) ((ewkZ (pZ z n i) j (14 + 16 * j + 1)) - (decP ((ewkZ (pZ z n i) j) (14 + 16 * j + 1)) ((ewkZ (pZ z n i) j) 3)))) (14 + 16 * j + 9) ((ewkZ (pZ z n i) j (14 + 16 * j + 9)) + (decP ((ewkZ (pZ z n i) j) (14 + 16 * j + 1)) ((ewkZ (pZ z n i) j) 3)))) 6 ((ewkZ (pZ z n i) j 6) + (decP ((ewkZ (pZ z n i) j) (14 + 16 * j + 1)) ((ewkZ (pZ z n i) j) 3))) = rustZ (ewL (ewkZ (pZ z n i) j) j) j ((ewkZ (pZ z n i) j) 4) 0 from rfl)) hP
                    have hD := va_D_eq (w2 := xw0 cI cC cM cB ad z t sg sz r x h ah (nI nx) (nI kp) zh (lwS cI na ma (rustZ (ewL (ewkZ (pZ z n i) j) j) j ((ewkZ (pZ z n i) j) 4) 0) kp wr)) (congrArg (fun q_ => xw0 cI cC cM cB ad z t sg sz r x h ah (nI nx) (nI kp) zh (lwS cI na ma q_ kp wr)) (show upd (upd (upd (upd (upd (ewkZ (pZ z n i) j) (14 + 16 * j + 3) (idlP (ewkZ (pZ z n i) j) j)) (14 + 16 * j + 4) 0) (14 + 16 * j + 1) ((ewkZ (pZ z n i) j (14 + 16 * j + 1)) - (decP ((ewkZ (pZ z n i) j) (14 + 16 * j + 1)) ((ewkZ (pZ z n i) j) 3)))) (14 + 16 * j + 9) ((ewkZ (pZ z n i) j (14 + 16 * j + 9)) + (decP ((ewkZ (pZ z n i) j) (14 + 16 * j + 1)) ((ewkZ (pZ z n i) j) 3)))) 6 ((ewkZ (pZ z n i) j 6) + (decP ((ewkZ (pZ z n i) j) (14 + 16 * j + 1)) ((ewkZ (pZ z n i) j) 3))) = rustZ (ewL (ewkZ (pZ z n i) j) j) j ((ewkZ (pZ z n i) j) 4) 0 from rfl)) hD
                    exact K227 5 0 (by omega) _ _ hP hD hS ls (lv_sub hl [3, 4, 5, 6, 7, 8, 9, 10, 1, 11, 12, 2, 0] rfl)
                  refine lv_if_le (tgt := 174) hx hb dL_bank_150 (by decide) (fun c37 => ?_) (fun c37 => ?_)
                  · have c37 := z_nlt c37
                    refine lv_iconst (v := 0) hx hb dL_bank_174 (by decide) ?_
                    refine z_top (v2 := .int (decP ((ewkZ (pZ z n i) j) (14 + 16 * j + 1)) ((ewkZ (pZ z n i) j) 3))) (congrArg Value.int ((if_neg c37).symm)) ?_
                    exact J175_0 _ _ hP hD hS ls (lv_sub hl [0, 1, 2, 3, 4, 5, 6, 7, 8, 9, 10] rfl)
                  · have c37 := z_lt c37
                    refine lv_aload hx hb dL_bank_153 (lv_at hl 4 rfl) ?_
                    refine lv_bipush (v := 16) hx hb dL_bank_155 (by decide) ?_
                    refine lv_iload hx hb dL_bank_157 (lv_at hl 10 rfl) ?_
                    refine lv_imul hx hb dL_bank_159 ?_
                    refine z_top (v2 := .int (nI (16 * j))) (congrArg Value.int (pk_mul 16 j)) ?_
                    refine lv_iconst (v := 1) hx hb dL_bank_160 (by decide) ?_
                    refine lv_iadd hx hb dL_bank_161  ?_
                    refine z_top (v2 := .int (nI (16 * j + 1))) (congrArg Value.int (nI_add (16 * j) 1)) ?_
                    refine va_iald hx hb hK hP (139 + (1)) 0 ((xw_r).trans (lw_1)) rfl (vp_in_nI (show 16 * j + 1 < 64 by omega) (by omega)) dL_bank_162 ?_
                    refine z_top (v2 := .int (ewkZ (pZ z n i) j (14 + 16 * j + 1))) (congrArg Value.int ((lm_at rfl (show 16 * j + 1 < 64 by omega) (show 14 + (16 * j + 1) = 14 + 16 * j + 1 by omega)).trans ((upd_ne (by omega)).trans ((upd_ne (by omega)).trans (rfl))))) ?_
                    refine lv_aload_n hx hb dL_bank_163 rfl (lv_at hl 3 rfl) ?_
                    refine lv_bipush (v := 9) hx hb dL_bank_164 (by decide) ?_
                    refine va_iald hx hb hK hP (139 + (0)) 0 ((xw_r).trans (lw_0)) rfl (vp_in_nI (show 9 < 15 by decide) (by omega)) dL_bank_166 ?_
                    refine z_top (v2 := .int (ewkZ (pZ z n i) j 3)) (congrArg Value.int ((nf_9 rfl).trans ((upd_ne (by omega)).trans ((upd_ne (by omega)).trans (rfl))))) ?_
                    refine lv_imul hx hb dL_bank_167  ?_
                    refine lv_bipush (v := 100) hx hb dL_bank_168 (by decide) ?_
                    refine lv_idiv hx hb dL_bank_170 (by decide) ?_
                    refine lv_goto (tgt := 175) hx hb dL_bank_171 (by decide) ?_
                    refine z_top (v2 := .int (decP ((ewkZ (pZ z n i) j) (14 + 16 * j + 1)) ((ewkZ (pZ z n i) j) 3))) (congrArg Value.int ((if_pos c37).symm)) ?_
                    exact J175_0 _ _ hP hD hS ls (lv_sub hl [0, 1, 2, 3, 4, 5, 6, 7, 8, 9, 10] rfl)
                · skip
                  refine lv_goto (tgt := 289) hx hb dL_bank_137 (by decide) ?_
                  refine lv_iinc (v := nI (j + 1)) (lv' := [(10, .int (nI (j + 1))), (0, .ref x), (1, .int xv), (2, .int yv), (3, .ref na), (4, .ref ma), (5, .int (atP xv 6)), (6, .int (nI a)), (7, .int (nI (1 + w_))), (8, .int (pS z n i + ewkR (pZ z n i) j)), (9, .int (nI i))]) hx hb dL_bank_289 hl (k := 10) rfl (nI_1 _) (by decide) rfl (fun ls hl => ?_)
                  refine lv_goto (tgt := 49) hx hb dL_bank_292 (by decide) ?_
                  have hl := (congrArg (fun qv_ => lv_has ls 13 [(10, .int (nI (j + 1))), (0, .ref x), (1, .int xv), (2, .int yv), (3, .ref na), (4, .ref ma), (5, .int (atP xv 6)), (6, .int (nI a)), (7, .int (nI (1 + w_))), (8, qv_), (9, .int (nI i))]) (show Value.int (pS z n i + ewkR (pZ z n i) j) = .int (pS z n i + ewkR (pZ z n i) (j + 1)) from congrArg Value.int (congrArg (fun q_ => pS z n i + q_) (ewk_few c32 c33).2))).mp hl
                  have hP := va_P_eq (w2 := xw0 cI cC cM cB ad z t sg sz r x h ah (nI nx) (nI kp) zh (lwS cI na ma (ewkZ (pZ z n i) (j + 1)) kp wr)) (congrArg (fun q_ => xw0 cI cC cM cB ad z t sg sz r x h ah (nI nx) (nI kp) zh (lwS cI na ma q_ kp wr)) (ewk_few c32 c33).1) hP
                  have hD := va_D_eq (w2 := xw0 cI cC cM cB ad z t sg sz r x h ah (nI nx) (nI kp) zh (lwS cI na ma (ewkZ (pZ z n i) (j + 1)) kp wr)) (congrArg (fun q_ => xw0 cI cC cM cB ad z t sg sz r x h ah (nI nx) (nI kp) zh (lwS cI na ma q_ kp wr)) (ewk_few c32 c33).1) hD
                  exact ih49 (j + 1) (by omega) _ _ hP hD hS ls (lv_sub hl [1, 2, 3, 4, 5, 6, 7, 8, 9, 10, 0] rfl)
              refine lv_icmp_ne (tgt := 96) hx hb dL_bank_89 (by decide) (fun c38 => ?_) (fun c38 => ?_)
              · skip
                refine lv_aload hx hb dL_bank_96 (lv_at hl 4 rfl) ?_
                refine lv_bipush (v := 16) hx hb dL_bank_98 (by decide) ?_
                refine lv_iload hx hb dL_bank_100 (lv_at hl 10 rfl) ?_
                refine lv_imul hx hb dL_bank_102 ?_
                refine z_top (v2 := .int (nI (16 * j))) (congrArg Value.int (pk_mul 16 j)) ?_
                refine lv_iconst (v := 3) hx hb dL_bank_103 (by decide) ?_
                refine lv_iadd hx hb dL_bank_104  ?_
                refine z_top (v2 := .int (nI (16 * j + 3))) (congrArg Value.int (nI_add (16 * j) 3)) ?_
                refine va_iald hx hb hK hP (139 + (1)) 0 ((xw_r).trans (lw_1)) rfl (vp_in_nI (show 16 * j + 3 < 64 by omega) (by omega)) dL_bank_105 ?_
                refine z_top (v2 := .int (ewkZ (pZ z n i) j (14 + 16 * j + 3))) (congrArg Value.int ((lm_at rfl (show 16 * j + 3 < 64 by omega) (show 14 + (16 * j + 3) = 14 + 16 * j + 3 by omega)).trans (rfl))) ?_
                refine lv_iconst (v := 1) hx hb dL_bank_106 (by decide) ?_
                refine lv_iadd hx hb dL_bank_107  ?_
                refine z_top (v2 := .int (idlP (ewkZ (pZ z n i) j) j)) (congrArg Value.int (idl_0 hBY (by omega) c38)) ?_
                exact J108_0 _ _ hP hD hS ls (lv_sub hl [0, 1, 2, 3, 4, 5, 6, 7, 8, 9, 10] rfl)
              · skip
                refine lv_iconst (v := 0) hx hb dL_bank_92 (by decide) ?_
                refine lv_goto (tgt := 108) hx hb dL_bank_93 (by decide) ?_
                refine z_top (v2 := .int (idlP (ewkZ (pZ z n i) j) j)) (congrArg Value.int (idl_1 c38)) ?_
                exact J108_0 _ _ hP hD hS ls (lv_sub hl [0, 1, 2, 3, 4, 5, 6, 7, 8, 9, 10] rfl)
        have hl := (congrArg (fun qv_ => lv_has ls 13 [(10, .int 0), (0, .ref x), (1, .int xv), (2, .int yv), (3, .ref na), (4, .ref ma), (5, .int (atP xv 6)), (6, .int (nI a)), (7, .int (nI (1 + w_))), (8, qv_), (9, .int (nI i))]) (show Value.int (pS z n i) = .int (pS z n i + ewkR (pZ z n i) 0) from congrArg Value.int ((Int32.add_zero _).symm))).mp hl
        have hl := (congrArg (fun qv_ => lv_has ls 13 [(10, qv_), (0, .ref x), (1, .int xv), (2, .int yv), (3, .ref na), (4, .ref ma), (5, .int (atP xv 6)), (6, .int (nI a)), (7, .int (nI (1 + w_))), (8, .int (pS z n i + ewkR (pZ z n i) 0)), (9, .int (nI i))]) (show Value.int 0 = .int (nI 0) from congrArg Value.int (by rfl))).mp hl
        have hP := va_P_eq (w2 := xw0 cI cC cM cB ad z t sg sz r x h ah (nI nx) (nI kp) zh (lwS cI na ma (ewkZ (pZ z n i) 0) kp wr)) (congrArg (fun q_ => xw0 cI cC cM cB ad z t sg sz r x h ah (nI nx) (nI kp) zh (lwS cI na ma q_ kp wr)) (show pZ z n i = ewkZ (pZ z n i) 0 from rfl)) hP
        have hD := va_D_eq (w2 := xw0 cI cC cM cB ad z t sg sz r x h ah (nI nx) (nI kp) zh (lwS cI na ma (ewkZ (pZ z n i) 0) kp wr)) (congrArg (fun q_ => xw0 cI cC cM cB ad z t sg sz r x h ah (nI nx) (nI kp) zh (lwS cI na ma q_ kp wr)) (show pZ z n i = ewkZ (pZ z n i) 0 from rfl)) hD
        exact K49 n 0 (by omega) _ _ hP hD hS ls (lv_sub hl [1, 2, 3, 4, 5, 6, 7, 8, 9, 10, 0] rfl)
    have hl := (congrArg (fun qv_ => lv_has ls 13 [(9, .int 0), (8, qv_), (7, .int (nI (1 + w_))), (6, .int (nI a)), (5, .int (atP xv 6)), (0, .ref x), (1, .int xv), (2, .int yv), (3, .ref na), (4, .ref ma)]) (show Value.int 0 = .int (pS z n 0) from congrArg Value.int (by rfl))).mp hl
    have hl := (congrArg (fun qv_ => lv_has ls 13 [(9, qv_), (8, .int (pS z n 0)), (7, .int (nI (1 + w_))), (6, .int (nI a)), (5, .int (atP xv 6)), (0, .ref x), (1, .int xv), (2, .int yv), (3, .ref na), (4, .ref ma)]) (show Value.int 0 = .int (nI 0) from congrArg Value.int (by rfl))).mp hl
    have hP := va_P_eq (w2 := xw0 cI cC cM cB ad z t sg sz r x h ah (nI nx) (nI kp) zh (lwS cI na ma (pZ z n 0) kp wr)) (congrArg (fun q_ => xw0 cI cC cM cB ad z t sg sz r x h ah (nI nx) (nI kp) zh (lwS cI na ma q_ kp wr)) (show z = pZ z n 0 from rfl)) hP
    have hD := va_D_eq (w2 := xw0 cI cC cM cB ad z t sg sz r x h ah (nI nx) (nI kp) zh (lwS cI na ma (pZ z n 0) kp wr)) (congrArg (fun q_ => xw0 cI cC cM cB ad z t sg sz r x h ah (nI nx) (nI kp) zh (lwS cI na ma q_ kp wr)) (show z = pZ z n 0 from rfl)) hD
    exact K39 (1 + w_) 0 (by omega) _ _ hP hD hS ls (lv_sub hl [5, 6, 7, 8, 9, 4, 3, 2, 1, 0] rfl)
end XL
