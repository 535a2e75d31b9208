/-! The digest, of both. -/
def mx (h v : Int64) : Int64 := 31 * h + v
def dgN (f : Nat → Int32) (h : Int64) : Nat → Int64
  | 0 => h
  | i + 1 => mx (dgN f h i) (f i).toInt64
def dgP (z : Nat → Int32) (j : Nat) (h : Int64) : Nat → Int64
  | 0 => h
  | i + 1 => mx (mx (dgP z j h i) (z (25 + 16 * j + i)).toInt64) (ripeP (z (25 + 16 * j + i))).toInt64
def mmG (z : Nat → Int32) (h : Int64) (j : Nat) (a b c : Int32) : Int64 := mx (mx (mx (dgP z j (dgN (fun w => prpP z j (nI w)) h 12) 5) a.toInt64) b.toInt64) c.toInt64
def dgM (z A B C : Nat → Int32) (h : Int64) : Nat → Int64
  | 0 => h
  | i + 1 => mmG z (dgM z A B C h i) i (A i) (B i) (C i)
/-- what stands behind the members and skills -/
def dgS (z A B C : Nat → Int32) (n kp : Nat) : Int64 := dgN (fun i => mpP z i n) (dgM z A B C (dgN z (dgN (fun i => numP z n kp (nI i)) 2539 14) 5) n) 5
def dgT (z A B C : Nat → Int32) (n kp : Nat) (bits : Int64) (tx : Nat → Int32) (nb : Nat) : Int64 := dgN tx (mx (mx (mx (dgS z A B C n kp) (misP z n).toInt64) bits) (nI nb).toInt64) nb
def bwP (d : UInt64) : Int64 := 4607182418800017408 + FP.d2l (FP.dmul (FP.dsub d FP.dconst1) 4841369599423283200)
theorem t_Jxe99ae_isNaN_b9ae7 : zSt yJxe99ae_isNaN_b9ae7 cJxe99ae_isNaN_b9ae7 2 (some .boolean) 1 := ⟨⟨qt_Jxe99ae_isNaN_b9ae7, qn_Jxe99ae, qc_Jxe99ae_isNaN_b9ae7⟩, by decide, by decide, by decide +kernel⟩
theorem t_Jxe99ae_doubleToLongBits_ccdee : zSt yJxe99ae_doubleToLongBits_ccdee cJxe99ae_doubleToLongBits_ccdee 2 (some .long) 1 := ⟨⟨qt_Jxe99ae_doubleToLongBits_ccdee, qn_Jxe99ae, qc_Jxe99ae_doubleToLongBits_ccdee⟩, by decide, by decide, by decide +kernel⟩
theorem bwP_eq {d : UInt64} (h1 : 4607182418800017408 ≤ d.toNat) (h2 : d.toNat ≤ 4611686018427387904) : bwP d = d.toInt64 := fq_bits h1 h2
theorem qm_dbl_134 : Cond.methodLink "java/lang/Double" 134 ⟨"java/lang/Double", "doubleToRawLongBits", "(D)J"⟩ ∈ TT := tt_5 (List.mem_of_getElem? (i := 153) rfl) rfl
theorem qt_dbl_raw : Cond.static ⟨"java/lang/Double", "doubleToRawLongBits", "(D)J"⟩ ∈ TT := tt_5 (List.mem_of_getElem? (i := 154) rfl) rfl
theorem qv_dbl_raw : Cond.native ⟨"java/lang/Double", "doubleToRawLongBits", "(D)J"⟩ ∈ TT := tt_5 (List.mem_of_getElem? (i := 155) rfl) rfl
abbrev cA (z : Nat → Int32) : Nat → Int32 := fun i => lngP z i 0 1
abbrev cBc (z : Nat → Int32) (n : Nat) : Nat → Int32 := fun i => chG z n i 1 60 n
abbrev cCc (z : Nat → Int32) : Nat → Int32 := fun i => fdP z i 10
abbrev mA (z : Nat → Int32) : Nat → Int32 := fun i => lgM z i 0 1 600
abbrev mB (z : Nat → Int32) (n : Nat) : Nat → Int32 := fun i => chM z i 1 60 n
abbrev mC (z : Nat → Int32) (n : Nat) : Nat → Int32 := fun i => dcM z n i 10
theorem dcmp_0 {d : UInt64} (h : vf_n64 d) : Op.cmpValue (FP.dcmp d d) .l = 0 := by
  have : FP.dcmp d d = some .eq := FP.Core.dcmp_self (vf_ne h)
  rw [this]; rfl

section XB
variable {l : Launch} {D : va_G} {cI cC cM cB cJ : ClassId} {ad ad2 : Nat → Nat} {z z2 : Nat → Int32} {wr : va_W} {t h : Nat → Nat} {ah : Nat → Nat → Nat} {zh : Nat → Nat → Int32} {x : Nat} {sg : Nat → Int32} {r : Nat → Int32} {sz : Int32}
set_option maxHeartbeats 4000000 in
set_option maxRecDepth 100000 in
theorem c_X5_mixed (h_ v : Int64) : zM l D (zT cI cC cM cB cJ) yX5_mixed cX5_mixed 4 (some .long) ({ frames := 0, cells := 0, slots := 0, locals := 0 } : Room) [.long h_, .long v] (wr) (wr) (some (.long (mx h_ v))) 0 0 := by
  refine z_enter (by decide) (Nat.le_of_ble_eq_true rfl) ?_
  intro p e s m below meth c A S hr hlocks hnm hN hA hK hP hD hS ls hl
  obtain ⟨hx, hb, hml, hown, hts⟩ := id S
  have hl : lv_has ls 4 [(0, .long h_), (2, .long v)] := hl
  have hP : va_P D vwCl (wr) s.heap := hP
  have hD : va_D A (wr) := hD
  refine lv_ldc2 (v := (31)) hx hb hown (hts _ ql_X5_297) dX5_mixed_0 ?_
  refine lv_lload_n hx hb dX5_mixed_3 rfl (lv_at hl 0 rfl) ?_
  refine lv_lmul hx hb dX5_mixed_4 ?_
  refine lv_lload_n hx hb dX5_mixed_5 rfl (lv_at hl 1 rfl) ?_
  refine lv_ladd hx hb dX5_mixed_6 ?_
  exact z_lret hx hb hr hlocks hP hD hK hS (rfl) (rfl) dX5_mixed_7
set_option maxHeartbeats 4000000 in
set_option maxRecDepth 100000 in
theorem c_X5_bitsOfWorth (dv : UInt64) (hn1 : vf_n64 (FP.dsub dv FP.dconst1)) (hn2 : vf_n64 (FP.dmul (FP.dsub dv FP.dconst1) 4841369599423283200)) : zM l D (zT cI cC cM cB cJ) yX5_bitsOfWorth cX5_bitsOfWorth 2 (some .long) ({ frames := 0, cells := 0, slots := 0, locals := 0 } : Room) [.double dv] (wr) (wr) (some (.long (bwP dv))) 0 0 := by
  refine z_enter (by decide) (Nat.le_of_ble_eq_true rfl) ?_
  intro p e s m below meth c A S hr hlocks hnm hN hA hK hP hD hS ls hl
  obtain ⟨hx, hb, hml, hown, hts⟩ := id S
  have hl : lv_has ls 2 [(0, .double dv)] := hl
  have hP : va_P D vwCl (wr) s.heap := hP
  have hD : va_D A (wr) := hD
  refine lv_ldc2 (v := (4607182418800017408)) hx hb hown (hts _ ql_X5_299) dX5_bitsOfWorth_0 ?_
  refine lv_dload_n hx hb dX5_bitsOfWorth_3 rfl (lv_at hl 0 rfl) ?_
  refine lv_dconst1 hx hb dX5_bitsOfWorth_4 ?_
  refine lv_dsub hx hb dX5_bitsOfWorth_5 (hn1) ?_
  refine lv_ldc2d (v := (4841369599423283200)) hx hb hown (hts _ qd_X5_301) dX5_bitsOfWorth_6 ?_
  refine lv_dmul hx hb dX5_bitsOfWorth_9 (hn2) ?_
  refine lv_d2l hx hb dX5_bitsOfWorth_10 ?_
  refine lv_ladd hx hb dX5_bitsOfWorth_11 ?_
  exact z_lret hx hb hr hlocks hP hD hK hS (rfl) (rfl) dX5_bitsOfWorth_12
set_option maxHeartbeats 4000000 in
set_option maxRecDepth 100000 in
theorem c_X5_mixedMember {n : Nat} (hn : n ≤ 8) (hz : z 5 = nI n) {nx kp : Nat} (h_ : Int64) (j : Nat) (hj : j < 8) : zM l D (zT cI cC cM cB cJ) yX5_mixedMember cX5_mixedMember 7 (some .long) ({ frames := 6, cells := 0, slots := 0, locals := 136 } : Room) [.ref x, .long h_, .int (nI j)] (bkW cI cM ad z (txW cC t sg sz r (xoW x ad h t (hsW cB h ah (nI nx) (nI kp) (hbW cI cM ah zh wr))))) (bkW cI cM ad z (txW cC t sg sz r (xoW x ad h t (hsW cB h ah (nI nx) (nI kp) (hbW cI cM ah zh wr))))) (some (.long (mmG z h_ j (cA z j) (cBc z n j) (cCc z j)))) 0 0 := by
  refine z_enter (by decide) (Nat.le_of_ble_eq_true rfl) ?_
  intro p e s m below meth c A S hr hlocks hnm hN hA hK hP hD hS ls hl
  obtain ⟨hx, hb, hml, hown, hts⟩ := id S
  have hl : lv_has ls 7 [(0, .ref x), (1, .long h_), (3, .int (nI j))] := hl
  have hP : va_P D vwCl (bkW cI cM ad z (txW cC t sg sz r (xoW x ad h t (hsW cB h ah (nI nx) (nI kp) (hbW cI cM ah zh wr))))) s.heap := hP
  have hD : va_D A (bkW cI cM ad z (txW cC t sg sz r (xoW x ad h t (hsW cB h ah (nI nx) (nI kp) (hbW cI cM ah zh wr))))) := hD
  refine lv_lload_n hx hb dX5_mixedMember_0 rfl (lv_at hl 1 rfl) ?_
  refine lv_lstore (lv' := [(4, .long h_), (0, .ref x), (1, .long h_), (3, .int (nI j))]) hx hb dX5_mixedMember_1 hl (by decide) rfl (fun ls hl => ?_)
  refine lv_iconst (v := 0) hx hb dX5_mixedMember_3 (by decide) ?_
  refine lv_istore (lv' := [(6, .int 0), (4, .long h_), (0, .ref x), (1, .long h_), (3, .int (nI j))]) hx hb dX5_mixedMember_4 hl (by decide) rfl (fun ls hl => ?_)
  have K6 : ∀ (n6 w : Nat), w + n6 = 12 → ∀ (H : Heap) (locs : List Loc), va_P D vwCl (bkW cI cM ad z (txW cC t sg sz r (xoW x ad h t (hsW cB h ah (nI nx) (nI kp) (hbW cI cM ah zh wr))))) H → va_D A (bkW cI cM ad z (txW cC t sg sz r (xoW x ad h t (hsW cB h ah (nI nx) (nI kp) (hbW cI cM ah zh wr))))) → va_S A s.heap H locs → ∀ ls : Array Slot, lv_has ls 7 [(0, .ref x), (1, .long h_), (3, .int (nI j)), (4, .long (dgN (fun w => prpP z j (nI w)) h_ w)), (6, .int (nI w))] → W p l e ({ frames := 6, cells := 0, slots := 0, locals := 136 } : Room) s m ([.ref x, .long h_, .int (nI j)] : List Value).toArray below meth c H locs 0 0 (MQ below (zQ D (zT cI cC cM cB cJ) (bkW cI cM ad z (txW cC t sg sz r (xoW x ad h t (hsW cB h ah (nI nx) (nI kp) (hbW cI cM ah zh wr))))) (some (.long (mmG z h_ j (cA z j) (cBc z n j) (cCc z j)))) A) ([.ref x, .long h_, .int (nI j)] : List Value).toArray s 0 0 A) (F0 m 6 ls []) := by
    intro n6
    induction n6 with
    | zero =>
      intro w h_w H locs hP hD hS ls hl
      have ew : 12 = w := by omega
      subst ew
      refine lv_iload hx hb dX5_mixedMember_6 (lv_at hl 4 rfl) ?_
      refine lv_bipush (v := 12) hx hb dX5_mixedMember_8 (by decide) ?_
      refine lv_icmp_ge (tgt := 37) hx hb dX5_mixedMember_10 (by decide) (fun c1 => ?_) (fun c1 => absurd (nI_le (a := 12) (b := 12) (by omega) (by omega)) c1)
      have c1 := z_nlt c1
      refine lv_iconst (v := 0) hx hb dX5_mixedMember_37 (by decide) ?_
      refine lv_istore (lv' := [(6, .int 0), (0, .ref x), (1, .long h_), (3, .int (nI j)), (4, .long (dgN (fun w => prpP z j (nI w)) h_ 12))]) hx hb dX5_mixedMember_38 hl (by decide) rfl (fun ls hl => ?_)
      have K40 : ∀ (n40 k : Nat), k + n40 = 5 → ∀ (H : Heap) (locs : List Loc), va_P D vwCl (bkW cI cM ad z (txW cC t sg sz r (xoW x ad h t (hsW cB h ah (nI nx) (nI kp) (hbW cI cM ah zh wr))))) H → va_D A (bkW cI cM ad z (txW cC t sg sz r (xoW x ad h t (hsW cB h ah (nI nx) (nI kp) (hbW cI cM ah zh wr))))) → va_S A s.heap H locs → ∀ ls : Array Slot, lv_has ls 7 [(0, .ref x), (1, .long h_), (3, .int (nI j)), (4, .long (dgP z j (dgN (fun w => prpP z j (nI w)) h_ 12) k)), (6, .int (nI k))] → W p l e ({ frames := 6, cells := 0, slots := 0, locals := 136 } : Room) s m ([.ref x, .long h_, .int (nI j)] : List Value).toArray below meth c H locs 0 0 (MQ below (zQ D (zT cI cC cM cB cJ) (bkW cI cM ad z (txW cC t sg sz r (xoW x ad h t (hsW cB h ah (nI nx) (nI kp) (hbW cI cM ah zh wr))))) (some (.long (mmG z h_ j (cA z j) (cBc z n j) (cCc z j)))) A) ([.ref x, .long h_, .int (nI j)] : List Value).toArray s 0 0 A) (F0 m 40 ls []) := by
        intro n40
        induction n40 with
        | zero =>
          intro k h_k H locs hP hD hS ls hl
          have ek : 5 = k := by omega
          subst ek
          refine lv_iload hx hb dX5_mixedMember_40 (lv_at hl 4 rfl) ?_
          refine lv_iconst (v := 5) hx hb dX5_mixedMember_42 (by decide) ?_
          refine lv_icmp_ge (tgt := 97) hx hb dX5_mixedMember_43 (by decide) (fun c2 => ?_) (fun c2 => absurd (nI_le (a := 5) (b := 5) (by omega) (by omega)) c2)
          have c2 := z_nlt c2
          refine lv_lload hx hb dX5_mixedMember_97 (lv_at hl 3 rfl) ?_
          refine lv_aload_n hx hb dX5_mixedMember_99 rfl (lv_at hl 0 rfl) ?_
          refine va_get (v := .ref (ad 0)) hx hb hts inTX5 hown hK hP (19 + (3 + (0))) ((bk_r).trans ((tx_r).trans (xo_0))) rfl 0 (by decide) (hts _ qf_X5_10) (fun _ h9 => h9) (rfl) dX5_mixedMember_100 ?_
          refine lv_iload_n hx hb dX5_mixedMember_103 rfl (lv_at hl 2 rfl) ?_
          refine lv_iconst (v := 0) hx hb dX5_mixedMember_104 (by decide) ?_
          refine lv_iconst (v := 1) hx hb dX5_mixedMember_105 (by decide) ?_
          refine z_callV1 (rest := [.long (dgP z j (dgN (fun w => prpP z j (nI w)) h_ 12) 5)]) S (c_X0_longestDeal j 0 (show j < 8 by omega) (show 0 < 8 by decide) 1 (show 1 < 5 by decide)) qm_X5_226 v_X0_longestDeal ⟨Nat.le_of_ble_eq_true rfl, Nat.le_of_ble_eq_true rfl⟩ rfl rfl hN hK hP hD hS hA (0) (bk_0) rfl rfl hl.1 rfl (Nat.le_of_ble_eq_true rfl) dX5_mixedMember_106 ⟨Nat.le_of_ble_eq_true rfl, Nat.le_of_ble_eq_true rfl⟩ (fun H locs hP hD hS => ?_)
          refine lv_i2l hx hb dX5_mixedMember_109 rfl ?_
          refine z_callS1 (rest := []) S (c_X5_mixed (dgP z j (dgN (fun w => prpP z j (nI w)) h_ 12) 5) ((lngP z j 0 1).toInt64)) qm_X5_250 t_X5_mixed ⟨Nat.le_of_ble_eq_true rfl, Nat.le_of_ble_eq_true rfl⟩ rfl rfl hN hK hP hD hS hA rfl hl.1 rfl (Nat.le_of_ble_eq_true rfl) dX5_mixedMember_110 ⟨Nat.le_of_ble_eq_true rfl, Nat.le_of_ble_eq_true rfl⟩ (fun H locs hP hD hS => ?_)
          refine lv_lstore (lv' := [(4, .long (mx (dgP z j (dgN (fun w => prpP z j (nI w)) h_ 12) 5) ((lngP z j 0 1).toInt64))), (0, .ref x), (1, .long h_), (3, .int (nI j)), (6, .int (nI 5))]) hx hb dX5_mixedMember_113 hl (by decide) rfl (fun ls hl => ?_)
          refine lv_lload hx hb dX5_mixedMember_115 (lv_at hl 0 rfl) ?_
          refine lv_aload_n hx hb dX5_mixedMember_117 rfl (lv_at hl 1 rfl) ?_
          refine va_get (v := .ref (ad 0)) hx hb hts inTX5 hown hK hP (19 + (3 + (0))) ((bk_r).trans ((tx_r).trans (xo_0))) rfl 0 (by decide) (hts _ qf_X5_10) (fun _ h9 => h9) (rfl) dX5_mixedMember_118 ?_
          refine lv_iload_n hx hb dX5_mixedMember_121 rfl (lv_at hl 3 rfl) ?_
          refine lv_iconst (v := 1) hx hb dX5_mixedMember_122 (by decide) ?_
          refine lv_bipush (v := 60) hx hb dX5_mixedMember_123 (by decide) ?_
          refine z_callV1 (rest := [.long (mx (dgP z j (dgN (fun w => prpP z j (nI w)) h_ 12) 5) ((lngP z j 0 1).toInt64))]) S (c_X0_cheapestGiver (n := n) (show n ≤ 8 by omega) (hz) j 1 (show j < 8 by omega) (show 1 < 5 by decide) 60) qm_X5_230 v_X0_cheapestGiver ⟨Nat.le_of_ble_eq_true rfl, Nat.le_of_ble_eq_true rfl⟩ rfl rfl hN hK hP hD hS hA (0) (bk_0) rfl rfl hl.1 rfl (Nat.le_of_ble_eq_true rfl) dX5_mixedMember_125 ⟨Nat.le_of_ble_eq_true rfl, Nat.le_of_ble_eq_true rfl⟩ (fun H locs hP hD hS => ?_)
          refine lv_i2l hx hb dX5_mixedMember_128 rfl ?_
          refine z_callS1 (rest := []) S (c_X5_mixed (mx (dgP z j (dgN (fun w => prpP z j (nI w)) h_ 12) 5) ((lngP z j 0 1).toInt64)) ((chG z n j 1 60 n).toInt64)) qm_X5_250 t_X5_mixed ⟨Nat.le_of_ble_eq_true rfl, Nat.le_of_ble_eq_true rfl⟩ rfl rfl hN hK hP hD hS hA rfl hl.1 rfl (Nat.le_of_ble_eq_true rfl) dX5_mixedMember_129 ⟨Nat.le_of_ble_eq_true rfl, Nat.le_of_ble_eq_true rfl⟩ (fun H locs hP hD hS => ?_)
          refine lv_lstore (lv' := [(4, .long (mx (mx (dgP z j (dgN (fun w => prpP z j (nI w)) h_ 12) 5) ((lngP z j 0 1).toInt64)) ((chG z n j 1 60 n).toInt64))), (0, .ref x), (1, .long h_), (3, .int (nI j)), (6, .int (nI 5))]) hx hb dX5_mixedMember_132 hl (by decide) rfl (fun ls hl => ?_)
          refine lv_lload hx hb dX5_mixedMember_134 (lv_at hl 0 rfl) ?_
          refine lv_aload_n hx hb dX5_mixedMember_136 rfl (lv_at hl 1 rfl) ?_
          refine va_get (v := .ref (ad 0)) hx hb hts inTX5 hown hK hP (19 + (3 + (0))) ((bk_r).trans ((tx_r).trans (xo_0))) rfl 0 (by decide) (hts _ qf_X5_10) (fun _ h9 => h9) (rfl) dX5_mixedMember_137 ?_
          refine lv_iload_n hx hb dX5_mixedMember_140 rfl (lv_at hl 3 rfl) ?_
          refine lv_bipush (v := 10) hx hb dX5_mixedMember_141 (by decide) ?_
          refine z_callV1 (rest := [.long (mx (mx (dgP z j (dgN (fun w => prpP z j (nI w)) h_ 12) 5) ((lngP z j 0 1).toInt64)) ((chG z n j 1 60 n).toInt64))]) S (c_X0_foreseenDecay j 10 (show j < 8 by omega) (show 10 < 1000 by decide)) qm_X5_233 v_X0_foreseenDecay ⟨Nat.le_of_ble_eq_true rfl, Nat.le_of_ble_eq_true rfl⟩ rfl rfl hN hK hP hD hS hA (0) (bk_0) rfl rfl hl.1 rfl (Nat.le_of_ble_eq_true rfl) dX5_mixedMember_143 ⟨Nat.le_of_ble_eq_true rfl, Nat.le_of_ble_eq_true rfl⟩ (fun H locs hP hD hS => ?_)
          refine lv_i2l hx hb dX5_mixedMember_146 rfl ?_
          refine z_callS1 (rest := []) S (c_X5_mixed (mx (mx (dgP z j (dgN (fun w => prpP z j (nI w)) h_ 12) 5) ((lngP z j 0 1).toInt64)) ((chG z n j 1 60 n).toInt64)) ((fdP z j 10).toInt64)) qm_X5_250 t_X5_mixed ⟨Nat.le_of_ble_eq_true rfl, Nat.le_of_ble_eq_true rfl⟩ rfl rfl hN hK hP hD hS hA rfl hl.1 rfl (Nat.le_of_ble_eq_true rfl) dX5_mixedMember_147 ⟨Nat.le_of_ble_eq_true rfl, Nat.le_of_ble_eq_true rfl⟩ (fun H locs hP hD hS => ?_)
          exact z_lret hx hb hr hlocks hP hD hK hS (rfl) (rfl) dX5_mixedMember_150
        | succ n40 ih40 =>
          intro k h_k H locs hP hD hS ls hl
          have lk : k < 5 := by omega
          refine lv_iload hx hb dX5_mixedMember_40 (lv_at hl 4 rfl) ?_
          refine lv_iconst (v := 5) hx hb dX5_mixedMember_42 (by decide) ?_
          refine lv_icmp_ge (tgt := 97) hx hb dX5_mixedMember_43 (by decide) (fun c3 => absurd c3 (nI_ge (a := k) (b := 5) (by omega) (by omega))) (fun c3 => ?_)
          have c3 := z_lt c3
          refine lv_lload hx hb dX5_mixedMember_46 (lv_at hl 3 rfl) ?_
          refine lv_aload_n hx hb dX5_mixedMember_48 rfl (lv_at hl 0 rfl) ?_
          refine va_get (v := .ref (ad 0)) hx hb hts inTX5 hown hK hP (19 + (3 + (0))) ((bk_r).trans ((tx_r).trans (xo_0))) rfl 0 (by decide) (hts _ qf_X5_10) (fun _ h9 => h9) (rfl) dX5_mixedMember_49 ?_
          refine va_get (v := .ref (ad 1)) hx hb hts inTX0 hown hK hP (0) (bk_0) rfl 0 (by decide) (hts _ qf_X5_58) (fun _ h9 => h9) (rfl) dX5_mixedMember_52 ?_
          refine lv_iload_n hx hb dX5_mixedMember_55 rfl (lv_at hl 2 rfl) ?_
          refine va_aldq hx hb hK hP (1) 2 (bk_1) rfl (vp_in_nI (show j < 8 by omega) (by omega)) dX5_mixedMember_56 ?_
          refine z_top (v2 := .ref (ad (3 + j))) (z_rf rfl) ?_
          refine va_get (v := .ref (ad (11 + j))) hx hb hts inTX4 hown hK hP (3 + j) (bk_m (show j < 8 by omega)) rfl 0 (by decide) (hts _ qf_X5_212) (fun _ h9 => h9) (rfl) dX5_mixedMember_57 ?_
          refine lv_iload hx hb dX5_mixedMember_60 (lv_at hl 4 rfl) ?_
          refine va_iald hx hb hK hP (11 + j) 0 (bk_p (show j < 8 by omega)) rfl (vp_in_nI (show k < 5 by omega) (by omega)) dX5_mixedMember_62 ?_
          refine z_top (v2 := .int (z (25 + 16 * j + k))) (congrArg Value.int ((pfn_at rfl (show k < 5 by omega)).trans (rfl))) ?_
          refine lv_i2l hx hb dX5_mixedMember_63 rfl ?_
          refine z_callS1 (rest := []) S (c_X5_mixed (dgP z j (dgN (fun w => prpP z j (nI w)) h_ 12) k) ((z (25 + 16 * j + k)).toInt64)) qm_X5_250 t_X5_mixed ⟨Nat.le_of_ble_eq_true rfl, Nat.le_of_ble_eq_true rfl⟩ rfl rfl hN hK hP hD hS hA rfl hl.1 rfl (Nat.le_of_ble_eq_true rfl) dX5_mixedMember_64 ⟨Nat.le_of_ble_eq_true rfl, Nat.le_of_ble_eq_true rfl⟩ (fun H locs hP hD hS => ?_)
          refine lv_lstore (lv' := [(4, .long (mx (dgP z j (dgN (fun w => prpP z j (nI w)) h_ 12) k) ((z (25 + 16 * j + k)).toInt64))), (0, .ref x), (1, .long h_), (3, .int (nI j)), (6, .int (nI k))]) hx hb dX5_mixedMember_67 hl (by decide) rfl (fun ls hl => ?_)
          refine lv_lload hx hb dX5_mixedMember_69 (lv_at hl 0 rfl) ?_
          refine lv_aload_n hx hb dX5_mixedMember_71 rfl (lv_at hl 1 rfl) ?_
          refine va_get (v := .ref (ad 0)) hx hb hts inTX5 hown hK hP (19 + (3 + (0))) ((bk_r).trans ((tx_r).trans (xo_0))) rfl 0 (by decide) (hts _ qf_X5_10) (fun _ h9 => h9) (rfl) dX5_mixedMember_72 ?_
          refine va_get (v := .ref (ad 1)) hx hb hts inTX0 hown hK hP (0) (bk_0) rfl 0 (by decide) (hts _ qf_X5_58) (fun _ h9 => h9) (rfl) dX5_mixedMember_75 ?_
          refine lv_iload_n hx hb dX5_mixedMember_78 rfl (lv_at hl 3 rfl) ?_
          refine va_aldq hx hb hK hP (1) 2 (bk_1) rfl (vp_in_nI (show j < 8 by omega) (by omega)) dX5_mixedMember_79 ?_
          refine z_top (v2 := .ref (ad (3 + j))) (z_rf rfl) ?_
          refine lv_iload hx hb dX5_mixedMember_80 (lv_at hl 4 rfl) ?_
          refine z_callV1 (rest := [.long (mx (dgP z j (dgN (fun w => prpP z j (nI w)) h_ 12) k) ((z (25 + 16 * j + k)).toInt64))]) S (c_X4_ripeness j k (show j < 8 by omega) (show k < 5 by omega)) qm_X5_215 v_X4_ripeness ⟨Nat.le_of_ble_eq_true rfl, Nat.le_of_ble_eq_true rfl⟩ rfl rfl hN hK hP hD hS hA (3 + j) (bk_m (show j < 8 by omega)) rfl rfl hl.1 rfl (Nat.le_of_ble_eq_true rfl) dX5_mixedMember_82 ⟨Nat.le_of_ble_eq_true rfl, Nat.le_of_ble_eq_true rfl⟩ (fun H locs hP hD hS => ?_)
          refine lv_i2l hx hb dX5_mixedMember_85 rfl ?_
          refine z_callS1 (rest := []) S (c_X5_mixed (mx (dgP z j (dgN (fun w => prpP z j (nI w)) h_ 12) k) ((z (25 + 16 * j + k)).toInt64)) ((ripeP (z (25 + 16 * j + k))).toInt64)) qm_X5_250 t_X5_mixed ⟨Nat.le_of_ble_eq_true rfl, Nat.le_of_ble_eq_true rfl⟩ rfl rfl hN hK hP hD hS hA rfl hl.1 rfl (Nat.le_of_ble_eq_true rfl) dX5_mixedMember_86 ⟨Nat.le_of_ble_eq_true rfl, Nat.le_of_ble_eq_true rfl⟩ (fun H locs hP hD hS => ?_)
          refine lv_lstore (lv' := [(4, .long (mx (mx (dgP z j (dgN (fun w => prpP z j (nI w)) h_ 12) k) ((z (25 + 16 * j + k)).toInt64)) ((ripeP (z (25 + 16 * j + k))).toInt64))), (0, .ref x), (1, .long h_), (3, .int (nI j)), (6, .int (nI k))]) hx hb dX5_mixedMember_89 hl (by decide) rfl (fun ls hl => ?_)
          refine lv_iinc (v := nI (k + 1)) (lv' := [(6, .int (nI (k + 1))), (4, .long (mx (mx (dgP z j (dgN (fun w => prpP z j (nI w)) h_ 12) k) ((z (25 + 16 * j + k)).toInt64)) ((ripeP (z (25 + 16 * j + k))).toInt64))), (0, .ref x), (1, .long h_), (3, .int (nI j))]) hx hb dX5_mixedMember_91 hl (k := 4) rfl (nI_1 _) (by decide) rfl (fun ls hl => ?_)
          refine lv_goto (tgt := 40) hx hb dX5_mixedMember_94 (by decide) ?_
          have hl := (congrArg (fun qv_ => lv_has ls 7 [(6, .int (nI (k + 1))), (4, qv_), (0, .ref x), (1, .long h_), (3, .int (nI j))]) (show Value.long (mx (mx (dgP z j (dgN (fun w => prpP z j (nI w)) h_ 12) k) ((z (25 + 16 * j + k)).toInt64)) ((ripeP (z (25 + 16 * j + k))).toInt64)) = .long (dgP z j (dgN (fun w => prpP z j (nI w)) h_ 12) (k + 1)) from congrArg Value.long (rfl))).mp hl
          exact ih40 (k + 1) (by omega) _ _ hP hD hS ls (lv_sub hl [2, 3, 4, 1, 0] rfl)
      have hl := (congrArg (fun qv_ => lv_has ls 7 [(6, .int 0), (0, .ref x), (1, .long h_), (3, .int (nI j)), (4, qv_)]) (show Value.long (dgN (fun w => prpP z j (nI w)) h_ 12) = .long (dgP z j (dgN (fun w => prpP z j (nI w)) h_ 12) 0) from congrArg Value.long (rfl))).mp hl
      have hl := (congrArg (fun qv_ => lv_has ls 7 [(6, qv_), (0, .ref x), (1, .long h_), (3, .int (nI j)), (4, .long (dgP z j (dgN (fun w => prpP z j (nI w)) h_ 12) 0))]) (show Value.int 0 = .int (nI 0) from congrArg Value.int (rfl))).mp hl
      exact K40 5 0 (by omega) _ _ hP hD hS ls (lv_sub hl [1, 2, 3, 4, 0] rfl)
    | succ n6 ih6 =>
      intro w h_w H locs hP hD hS ls hl
      have lw : w < 12 := by omega
      refine lv_iload hx hb dX5_mixedMember_6 (lv_at hl 4 rfl) ?_
      refine lv_bipush (v := 12) hx hb dX5_mixedMember_8 (by decide) ?_
      refine lv_icmp_ge (tgt := 37) hx hb dX5_mixedMember_10 (by decide) (fun c4 => absurd c4 (nI_ge (a := w) (b := 12) (by omega) (by omega))) (fun c4 => ?_)
      have c4 := z_lt c4
      refine lv_lload hx hb dX5_mixedMember_13 (lv_at hl 3 rfl) ?_
      refine lv_aload_n hx hb dX5_mixedMember_15 rfl (lv_at hl 0 rfl) ?_
      refine va_get (v := .ref (ad 0)) hx hb hts inTX5 hown hK hP (19 + (3 + (0))) ((bk_r).trans ((tx_r).trans (xo_0))) rfl 0 (by decide) (hts _ qf_X5_10) (fun _ h9 => h9) (rfl) dX5_mixedMember_16 ?_
      refine lv_iload_n hx hb dX5_mixedMember_19 rfl (lv_at hl 2 rfl) ?_
      refine lv_iload hx hb dX5_mixedMember_20 (lv_at hl 4 rfl) ?_
      refine z_callV1 (rest := [.long (dgN (fun w => prpP z j (nI w)) h_ w)]) S (c_X0_memberProperty j (show j < 8 by omega) (nI w)) qm_X5_206 v_X0_memberProperty ⟨Nat.le_of_ble_eq_true rfl, Nat.le_of_ble_eq_true rfl⟩ rfl rfl hN hK hP hD hS hA (0) (bk_0) rfl rfl hl.1 rfl (Nat.le_of_ble_eq_true rfl) dX5_mixedMember_22 ⟨Nat.le_of_ble_eq_true rfl, Nat.le_of_ble_eq_true rfl⟩ (fun H locs hP hD hS => ?_)
      refine lv_i2l hx hb dX5_mixedMember_25 rfl ?_
      refine z_callS1 (rest := []) S (c_X5_mixed (dgN (fun w => prpP z j (nI w)) h_ w) ((prpP z j (nI w)).toInt64)) qm_X5_250 t_X5_mixed ⟨Nat.le_of_ble_eq_true rfl, Nat.le_of_ble_eq_true rfl⟩ rfl rfl hN hK hP hD hS hA rfl hl.1 rfl (Nat.le_of_ble_eq_true rfl) dX5_mixedMember_26 ⟨Nat.le_of_ble_eq_true rfl, Nat.le_of_ble_eq_true rfl⟩ (fun H locs hP hD hS => ?_)
      refine lv_lstore (lv' := [(4, .long (mx (dgN (fun w => prpP z j (nI w)) h_ w) ((prpP z j (nI w)).toInt64))), (0, .ref x), (1, .long h_), (3, .int (nI j)), (6, .int (nI w))]) hx hb dX5_mixedMember_29 hl (by decide) rfl (fun ls hl => ?_)
      refine lv_iinc (v := nI (w + 1)) (lv' := [(6, .int (nI (w + 1))), (4, .long (mx (dgN (fun w => prpP z j (nI w)) h_ w) ((prpP z j (nI w)).toInt64))), (0, .ref x), (1, .long h_), (3, .int (nI j))]) hx hb dX5_mixedMember_31 hl (k := 4) rfl (nI_1 _) (by decide) rfl (fun ls hl => ?_)
      refine lv_goto (tgt := 6) hx hb dX5_mixedMember_34 (by decide) ?_
      have hl := (congrArg (fun qv_ => lv_has ls 7 [(6, .int (nI (w + 1))), (4, qv_), (0, .ref x), (1, .long h_), (3, .int (nI j))]) (show Value.long (mx (dgN (fun w => prpP z j (nI w)) h_ w) ((prpP z j (nI w)).toInt64)) = .long (dgN (fun w => prpP z j (nI w)) h_ (w + 1)) from congrArg Value.long (rfl))).mp hl
      exact ih6 (w + 1) (by omega) _ _ hP hD hS ls (lv_sub hl [2, 3, 4, 1, 0] rfl)
  have hl := (congrArg (fun qv_ => lv_has ls 7 [(6, .int 0), (4, qv_), (0, .ref x), (1, .long h_), (3, .int (nI j))]) (show Value.long h_ = .long (dgN (fun w => prpP z j (nI w)) h_ 0) from congrArg Value.long (rfl))).mp hl
  have hl := (congrArg (fun qv_ => lv_has ls 7 [(6, qv_), (4, .long (dgN (fun w => prpP z j (nI w)) h_ 0)), (0, .ref x), (1, .long h_), (3, .int (nI j))]) (show Value.int 0 = .int (nI 0) from congrArg Value.int (rfl))).mp hl
  exact K6 12 0 (by omega) _ _ hP hD hS ls (lv_sub hl [2, 3, 4, 1, 0] rfl)
set_option maxHeartbeats 4000000 in
set_option maxRecDepth 100000 in
theorem c_X5_mixedText {nx kp nb : Nat} (hnb : nb ≤ 60) (h_ : Int64) : zM l D (zT cI cC cM cB cJ) yX5_mixedText cX5_mixedText 6 (some .long) ({ frames := 1, cells := 0, slots := 0, locals := 23 } : Room) [.ref x, .long h_] (bkW cI cM ad z (txW cC t sg (nI nb) r (xoW x ad h t (hsW cB h ah (nI nx) (nI kp) (hbW cI cM ah zh wr))))) (bkW cI cM ad z (txW cC t sg (nI nb) r (xoW x ad h t (hsW cB h ah (nI nx) (nI kp) (hbW cI cM ah zh wr))))) (some (.long (dgN sg (mx h_ (nI nb).toInt64) nb))) 0 0 := by
  refine z_enter (by decide) (Nat.le_of_ble_eq_true rfl) ?_
  intro p e s m below meth c A S hr hlocks hnm hN hA hK hP hD hS ls hl
  obtain ⟨hx, hb, hml, hown, hts⟩ := id S
  have hl : lv_has ls 6 [(0, .ref x), (1, .long h_)] := hl
  have hP : va_P D vwCl (bkW cI cM ad z (txW cC t sg (nI nb) r (xoW x ad h t (hsW cB h ah (nI nx) (nI kp) (hbW cI cM ah zh wr))))) s.heap := hP
  have hD : va_D A (bkW cI cM ad z (txW cC t sg (nI nb) r (xoW x ad h t (hsW cB h ah (nI nx) (nI kp) (hbW cI cM ah zh wr))))) := hD
  refine lv_lload_n hx hb dX5_mixedText_0 rfl (lv_at hl 1 rfl) ?_
  refine lv_aload_n hx hb dX5_mixedText_1 rfl (lv_at hl 0 rfl) ?_
  refine va_get (v := .ref (t 0)) hx hb hts inTX5 hown hK hP (19 + (3 + (0))) ((bk_r).trans ((tx_r).trans (xo_0))) rfl 2 (by decide) (hts _ qf_X5_26) (fun _ h9 => h9) (rfl) dX5_mixedText_2 ?_
  refine va_get (v := .int (nI nb)) hx hb hts inTX2 hown hK hP (19 + (0)) ((bk_r).trans (tx_0)) rfl 2 (by decide) (hts _ qf_X5_175) (fun _ h9 => h9) (rfl) dX5_mixedText_5 ?_
  refine lv_i2l hx hb dX5_mixedText_8 rfl ?_
  refine z_callS1 (rest := []) S (c_X5_mixed h_ ((nI nb).toInt64)) qm_X5_250 t_X5_mixed ⟨Nat.le_of_ble_eq_true rfl, Nat.le_of_ble_eq_true rfl⟩ rfl rfl hN hK hP hD hS hA rfl hl.1 rfl (Nat.le_of_ble_eq_true rfl) dX5_mixedText_9 ⟨Nat.le_of_ble_eq_true rfl, Nat.le_of_ble_eq_true rfl⟩ (fun H locs hP hD hS => ?_)
  refine lv_lstore_n (lv' := [(3, .long (mx h_ ((nI nb).toInt64))), (0, .ref x), (1, .long h_)]) hx hb dX5_mixedText_12 rfl hl (by decide) rfl (fun ls hl => ?_)
  refine lv_iconst (v := 0) hx hb dX5_mixedText_13 (by decide) ?_
  refine lv_istore (lv' := [(5, .int 0), (3, .long (mx h_ ((nI nb).toInt64))), (0, .ref x), (1, .long h_)]) hx hb dX5_mixedText_14 hl (by decide) rfl (fun ls hl => ?_)
  have K16 : ∀ (n16 i : Nat), i + n16 = nb → ∀ (H : Heap) (locs : List Loc), va_P D vwCl (bkW cI cM ad z (txW cC t sg (nI nb) r (xoW x ad h t (hsW cB h ah (nI nx) (nI kp) (hbW cI cM ah zh wr))))) H → va_D A (bkW cI cM ad z (txW cC t sg (nI nb) r (xoW x ad h t (hsW cB h ah (nI nx) (nI kp) (hbW cI cM ah zh wr))))) → va_S A s.heap H locs → ∀ ls : Array Slot, lv_has ls 6 [(0, .ref x), (1, .long h_), (3, .long (dgN sg (mx h_ (nI nb).toInt64) i)), (5, .int (nI i))] → W p l e ({ frames := 1, cells := 0, slots := 0, locals := 23 } : Room) s m ([.ref x, .long h_] : List Value).toArray below meth c H locs 0 0 (MQ below (zQ D (zT cI cC cM cB cJ) (bkW cI cM ad z (txW cC t sg (nI nb) r (xoW x ad h t (hsW cB h ah (nI nx) (nI kp) (hbW cI cM ah zh wr))))) (some (.long (dgN sg (mx h_ (nI nb).toInt64) nb))) A) ([.ref x, .long h_] : List Value).toArray s 0 0 A) (F0 m 16 ls []) := by
    intro n16
    induction n16 with
    | zero =>
      intro i h_i H locs hP hD hS ls hl
      have ei : nb = i := by omega
      subst ei
      refine lv_iload hx hb dX5_mixedText_16 (lv_at hl 3 rfl) ?_
      refine lv_aload_n hx hb dX5_mixedText_18 rfl (lv_at hl 0 rfl) ?_
      refine va_get (v := .ref (t 0)) hx hb hts inTX5 hown hK hP (19 + (3 + (0))) ((bk_r).trans ((tx_r).trans (xo_0))) rfl 2 (by decide) (hts _ qf_X5_26) (fun _ h9 => h9) (rfl) dX5_mixedText_19 ?_
      refine va_get (v := .int (nI nb)) hx hb hts inTX2 hown hK hP (19 + (0)) ((bk_r).trans (tx_0)) rfl 2 (by decide) (hts _ qf_X5_175) (fun _ h9 => h9) (rfl) dX5_mixedText_22 ?_
      refine lv_icmp_ge (tgt := 50) hx hb dX5_mixedText_25 (by decide) (fun c1 => ?_) (fun c1 => absurd (nI_le (a := nb) (b := nb) (by omega) (by omega)) c1)
      have c1 := z_nlt c1
      refine lv_lload_n hx hb dX5_mixedText_50 rfl (lv_at hl 2 rfl) ?_
      exact z_lret hx hb hr hlocks hP hD hK hS (rfl) (rfl) dX5_mixedText_51
    | succ n16 ih16 =>
      intro i h_i H locs hP hD hS ls hl
      have li : i < nb := by omega
      refine lv_iload hx hb dX5_mixedText_16 (lv_at hl 3 rfl) ?_
      refine lv_aload_n hx hb dX5_mixedText_18 rfl (lv_at hl 0 rfl) ?_
      refine va_get (v := .ref (t 0)) hx hb hts inTX5 hown hK hP (19 + (3 + (0))) ((bk_r).trans ((tx_r).trans (xo_0))) rfl 2 (by decide) (hts _ qf_X5_26) (fun _ h9 => h9) (rfl) dX5_mixedText_19 ?_
      refine va_get (v := .int (nI nb)) hx hb hts inTX2 hown hK hP (19 + (0)) ((bk_r).trans (tx_0)) rfl 2 (by decide) (hts _ qf_X5_175) (fun _ h9 => h9) (rfl) dX5_mixedText_22 ?_
      refine lv_icmp_ge (tgt := 50) hx hb dX5_mixedText_25 (by decide) (fun c2 => absurd c2 (nI_ge (a := i) (b := nb) (by omega) (by omega))) (fun c2 => ?_)
      have c2 := z_lt c2
      refine lv_lload_n hx hb dX5_mixedText_28 rfl (lv_at hl 2 rfl) ?_
      refine lv_aload_n hx hb dX5_mixedText_29 rfl (lv_at hl 0 rfl) ?_
      refine va_get (v := .ref (t 0)) hx hb hts inTX5 hown hK hP (19 + (3 + (0))) ((bk_r).trans ((tx_r).trans (xo_0))) rfl 2 (by decide) (hts _ qf_X5_26) (fun _ h9 => h9) (rfl) dX5_mixedText_30 ?_
      refine va_get (v := .ref (t 1)) hx hb hts inTX2 hown hK hP (19 + (0)) ((bk_r).trans (tx_0)) rfl 0 (by decide) (hts _ qf_X5_266) (fun _ h9 => h9) (rfl) dX5_mixedText_33 ?_
      refine lv_iload hx hb dX5_mixedText_36 (lv_at hl 3 rfl) ?_
      refine va_cald hx hb hK hP (19 + (1)) 1 ((bk_r).trans (tx_1)) rfl (vp_in_nI (show i < 60 by omega) (by omega)) dX5_mixedText_38 ?_
      refine z_top (v2 := .int (sg i)) (congrArg Value.int (congrArg sg (z_cl rfl))) ?_
      refine lv_i2l hx hb dX5_mixedText_39 rfl ?_
      refine z_callS1 (rest := []) S (c_X5_mixed (dgN sg (mx h_ (nI nb).toInt64) i) ((sg i).toInt64)) qm_X5_250 t_X5_mixed ⟨Nat.le_of_ble_eq_true rfl, Nat.le_of_ble_eq_true rfl⟩ rfl rfl hN hK hP hD hS hA rfl hl.1 rfl (Nat.le_of_ble_eq_true rfl) dX5_mixedText_40 ⟨Nat.le_of_ble_eq_true rfl, Nat.le_of_ble_eq_true rfl⟩ (fun H locs hP hD hS => ?_)
      refine lv_lstore_n (lv' := [(3, .long (mx (dgN sg (mx h_ (nI nb).toInt64) i) ((sg i).toInt64))), (0, .ref x), (1, .long h_), (5, .int (nI i))]) hx hb dX5_mixedText_43 rfl hl (by decide) rfl (fun ls hl => ?_)
      refine lv_iinc (v := nI (i + 1)) (lv' := [(5, .int (nI (i + 1))), (3, .long (mx (dgN sg (mx h_ (nI nb).toInt64) i) ((sg i).toInt64))), (0, .ref x), (1, .long h_)]) hx hb dX5_mixedText_44 hl (k := 3) rfl (nI_1 _) (by decide) rfl (fun ls hl => ?_)
      refine lv_goto (tgt := 16) hx hb dX5_mixedText_47 (by decide) ?_
      have hl := (congrArg (fun qv_ => lv_has ls 6 [(5, .int (nI (i + 1))), (3, qv_), (0, .ref x), (1, .long h_)]) (show Value.long (mx (dgN sg (mx h_ (nI nb).toInt64) i) ((sg i).toInt64)) = .long (dgN sg (mx h_ (nI nb).toInt64) (i + 1)) from congrArg Value.long (rfl))).mp hl
      exact ih16 (i + 1) (by omega) _ _ hP hD hS ls (lv_sub hl [2, 3, 1, 0] rfl)
  have hl := (congrArg (fun qv_ => lv_has ls 6 [(5, .int 0), (3, qv_), (0, .ref x), (1, .long h_)]) (show Value.long (mx h_ ((nI nb).toInt64)) = .long (dgN sg (mx h_ (nI nb).toInt64) 0) from congrArg Value.long (rfl))).mp hl
  have hl := (congrArg (fun qv_ => lv_has ls 6 [(5, qv_), (3, .long (dgN sg (mx h_ (nI nb).toInt64) 0)), (0, .ref x), (1, .long h_)]) (show Value.int 0 = .int (nI 0) from congrArg Value.int (rfl))).mp hl
  exact K16 nb 0 (by omega) _ _ hP hD hS ls (lv_sub hl [2, 3, 1, 0] rfl)
set_option maxHeartbeats 4000000 in
set_option maxRecDepth 100000 in
theorem c_X5_digest {n : Nat} (hn : n ≤ 8) (hz : z 5 = nI n) {nx kp : Nat} {nb : Nat} (hnb : nb ≤ 60) (hn1 : vf_n64 (FP.dsub (vomP z n) FP.dconst1)) (hn2 : vf_n64 (FP.dmul (FP.dsub (vomP z n) FP.dconst1) 4841369599423283200)) : zM l D (zT cI cC cM cB cJ) yX5_digest cX5_digest 4 (some .long) ({ frames := 7, cells := 0, slots := 0, locals := 162 } : Room) [.ref x] (bkW cI cM ad z (txW cC t sg (nI nb) r (xoW x ad h t (hsW cB h ah (nI nx) (nI kp) (hbW cI cM ah zh wr))))) (bkW cI cM ad z (txW cC t sg (nI nb) r (xoW x ad h t (hsW cB h ah (nI nx) (nI kp) (hbW cI cM ah zh wr))))) (some (.long (dgT z (cA z) (cBc z n) (cCc z) n kp (bwP (vomP z n)) sg nb))) 0 0 := by
  refine z_enter (by decide) (Nat.le_of_ble_eq_true rfl) ?_
  intro p e s m below meth c A S hr hlocks hnm hN hA hK hP hD hS ls hl
  obtain ⟨hx, hb, hml, hown, hts⟩ := id S
  have hl : lv_has ls 4 [(0, .ref x)] := hl
  have hP : va_P D vwCl (bkW cI cM ad z (txW cC t sg (nI nb) r (xoW x ad h t (hsW cB h ah (nI nx) (nI kp) (hbW cI cM ah zh wr))))) s.heap := hP
  have hD : va_D A (bkW cI cM ad z (txW cC t sg (nI nb) r (xoW x ad h t (hsW cB h ah (nI nx) (nI kp) (hbW cI cM ah zh wr))))) := hD
  refine lv_ldc2 (v := (2539)) hx hb hown (hts _ ql_X5_248) dX5_digest_0 ?_
  refine lv_lstore_n (lv' := [(1, .long (2539)), (0, .ref x)]) hx hb dX5_digest_3 rfl hl (by decide) rfl (fun ls hl => ?_)
  refine lv_iconst (v := 0) hx hb dX5_digest_4 (by decide) ?_
  refine lv_istore_n (lv' := [(3, .int 0), (1, .long (2539)), (0, .ref x)]) hx hb dX5_digest_5 rfl hl (by decide) rfl (fun ls hl => ?_)
  have K6 : ∀ (n6 i : Nat), i + n6 = 14 → ∀ (H : Heap) (locs : List Loc), va_P D vwCl (bkW cI cM ad z (txW cC t sg (nI nb) r (xoW x ad h t (hsW cB h ah (nI nx) (nI kp) (hbW cI cM ah zh wr))))) H → va_D A (bkW cI cM ad z (txW cC t sg (nI nb) r (xoW x ad h t (hsW cB h ah (nI nx) (nI kp) (hbW cI cM ah zh wr))))) → va_S A s.heap H locs → ∀ ls : Array Slot, lv_has ls 4 [(0, .ref x), (1, .long (dgN (fun i => numP z n kp (nI i)) 2539 i)), (3, .int (nI i))] → W p l e ({ frames := 7, cells := 0, slots := 0, locals := 162 } : Room) s m ([.ref x] : List Value).toArray below meth c H locs 0 0 (MQ below (zQ D (zT cI cC cM cB cJ) (bkW cI cM ad z (txW cC t sg (nI nb) r (xoW x ad h t (hsW cB h ah (nI nx) (nI kp) (hbW cI cM ah zh wr))))) (some (.long (dgT z (cA z) (cBc z n) (cCc z) n kp (bwP (vomP z n)) sg nb))) A) ([.ref x] : List Value).toArray s 0 0 A) (F0 m 6 ls []) := by
    intro n6
    induction n6 with
    | zero =>
      intro i h_i H locs hP hD hS ls hl
      have ei : 14 = i := by omega
      subst ei
      refine lv_iload_n hx hb dX5_digest_6 rfl (lv_at hl 2 rfl) ?_
      refine lv_bipush (v := 14) hx hb dX5_digest_7 (by decide) ?_
      refine lv_icmp_ge (tgt := 29) hx hb dX5_digest_9 (by decide) (fun c1 => ?_) (fun c1 => absurd (nI_le (a := 14) (b := 14) (by omega) (by omega)) c1)
      have c1 := z_nlt c1
      refine lv_iconst (v := 0) hx hb dX5_digest_29 (by decide) ?_
      refine lv_istore_n (lv' := [(3, .int 0), (0, .ref x), (1, .long (dgN (fun i => numP z n kp (nI i)) 2539 14))]) hx hb dX5_digest_30 rfl hl (by decide) rfl (fun ls hl => ?_)
      have K31 : ∀ (n31 i : Nat), i + n31 = 5 → ∀ (H : Heap) (locs : List Loc), va_P D vwCl (bkW cI cM ad z (txW cC t sg (nI nb) r (xoW x ad h t (hsW cB h ah (nI nx) (nI kp) (hbW cI cM ah zh wr))))) H → va_D A (bkW cI cM ad z (txW cC t sg (nI nb) r (xoW x ad h t (hsW cB h ah (nI nx) (nI kp) (hbW cI cM ah zh wr))))) → va_S A s.heap H locs → ∀ ls : Array Slot, lv_has ls 4 [(0, .ref x), (1, .long (dgN z (dgN (fun i => numP z n kp (nI i)) 2539 14) i)), (3, .int (nI i))] → W p l e ({ frames := 7, cells := 0, slots := 0, locals := 162 } : Room) s m ([.ref x] : List Value).toArray below meth c H locs 0 0 (MQ below (zQ D (zT cI cC cM cB cJ) (bkW cI cM ad z (txW cC t sg (nI nb) r (xoW x ad h t (hsW cB h ah (nI nx) (nI kp) (hbW cI cM ah zh wr))))) (some (.long (dgT z (cA z) (cBc z n) (cCc z) n kp (bwP (vomP z n)) sg nb))) A) ([.ref x] : List Value).toArray s 0 0 A) (F0 m 31 ls []) := by
        intro n31
        induction n31 with
        | zero =>
          intro i h_i H locs hP hD hS ls hl
          have ei : 5 = i := by omega
          subst ei
          refine lv_iload_n hx hb dX5_digest_31 rfl (lv_at hl 2 rfl) ?_
          refine lv_iconst (v := 5) hx hb dX5_digest_32 (by decide) ?_
          refine lv_icmp_ge (tgt := 57) hx hb dX5_digest_33 (by decide) (fun c2 => ?_) (fun c2 => absurd (nI_le (a := 5) (b := 5) (by omega) (by omega)) c2)
          have c2 := z_nlt c2
          refine lv_iconst (v := 0) hx hb dX5_digest_57 (by decide) ?_
          refine lv_istore_n (lv' := [(3, .int 0), (0, .ref x), (1, .long (dgN z (dgN (fun i => numP z n kp (nI i)) 2539 14) 5))]) hx hb dX5_digest_58 rfl hl (by decide) rfl (fun ls hl => ?_)
          have K59 : ∀ (n59 i : Nat), i + n59 = n → ∀ (H : Heap) (locs : List Loc), va_P D vwCl (bkW cI cM ad z (txW cC t sg (nI nb) r (xoW x ad h t (hsW cB h ah (nI nx) (nI kp) (hbW cI cM ah zh wr))))) H → va_D A (bkW cI cM ad z (txW cC t sg (nI nb) r (xoW x ad h t (hsW cB h ah (nI nx) (nI kp) (hbW cI cM ah zh wr))))) → va_S A s.heap H locs → ∀ ls : Array Slot, lv_has ls 4 [(0, .ref x), (1, .long (dgM z (cA z) (cBc z n) (cCc z) (dgN z (dgN (fun i => numP z n kp (nI i)) 2539 14) 5) i)), (3, .int (nI i))] → W p l e ({ frames := 7, cells := 0, slots := 0, locals := 162 } : Room) s m ([.ref x] : List Value).toArray below meth c H locs 0 0 (MQ below (zQ D (zT cI cC cM cB cJ) (bkW cI cM ad z (txW cC t sg (nI nb) r (xoW x ad h t (hsW cB h ah (nI nx) (nI kp) (hbW cI cM ah zh wr))))) (some (.long (dgT z (cA z) (cBc z n) (cCc z) n kp (bwP (vomP z n)) sg nb))) A) ([.ref x] : List Value).toArray s 0 0 A) (F0 m 59 ls []) := by
            intro n59
            induction n59 with
            | zero =>
              intro i h_i H locs hP hD hS ls hl
              have ei : n = i := by omega
              subst ei
              refine lv_iload_n hx hb dX5_digest_59 rfl (lv_at hl 2 rfl) ?_
              refine lv_aload_n hx hb dX5_digest_60 rfl (lv_at hl 0 rfl) ?_
              refine va_get (v := .ref (ad 0)) hx hb hts inTX5 hown hK hP (19 + (3 + (0))) ((bk_r).trans ((tx_r).trans (xo_0))) rfl 0 (by decide) (hts _ qf_X5_10) (fun _ h9 => h9) (rfl) dX5_digest_61 ?_
              refine va_get (v := .int (nI n)) hx hb hts inTX0 hown hK hP (0) (bk_0) rfl 2 (by decide) (hts _ qf_X5_30) (fun _ h9 => h9) (congrArg (fun x => some (Value.int x)) (hz)) dX5_digest_64 ?_
              refine lv_icmp_ge (tgt := 83) hx hb dX5_digest_67 (by decide) (fun c3 => ?_) (fun c3 => absurd (nI_le (a := n) (b := n) (by omega) (by omega)) c3)
              have c3 := z_nlt c3
              refine lv_iconst (v := 0) hx hb dX5_digest_83 (by decide) ?_
              refine lv_istore_n (lv' := [(3, .int 0), (0, .ref x), (1, .long (dgM z (cA z) (cBc z n) (cCc z) (dgN z (dgN (fun i => numP z n kp (nI i)) 2539 14) 5) n))]) hx hb dX5_digest_84 rfl hl (by decide) rfl (fun ls hl => ?_)
              have K85 : ∀ (n85 i : Nat), i + n85 = 5 → ∀ (H : Heap) (locs : List Loc), va_P D vwCl (bkW cI cM ad z (txW cC t sg (nI nb) r (xoW x ad h t (hsW cB h ah (nI nx) (nI kp) (hbW cI cM ah zh wr))))) H → va_D A (bkW cI cM ad z (txW cC t sg (nI nb) r (xoW x ad h t (hsW cB h ah (nI nx) (nI kp) (hbW cI cM ah zh wr))))) → va_S A s.heap H locs → ∀ ls : Array Slot, lv_has ls 4 [(0, .ref x), (1, .long (dgN (fun i => mpP z i n) (dgM z (cA z) (cBc z n) (cCc z) (dgN z (dgN (fun i => numP z n kp (nI i)) 2539 14) 5) n) i)), (3, .int (nI i))] → W p l e ({ frames := 7, cells := 0, slots := 0, locals := 162 } : Room) s m ([.ref x] : List Value).toArray below meth c H locs 0 0 (MQ below (zQ D (zT cI cC cM cB cJ) (bkW cI cM ad z (txW cC t sg (nI nb) r (xoW x ad h t (hsW cB h ah (nI nx) (nI kp) (hbW cI cM ah zh wr))))) (some (.long (dgT z (cA z) (cBc z n) (cCc z) n kp (bwP (vomP z n)) sg nb))) A) ([.ref x] : List Value).toArray s 0 0 A) (F0 m 85 ls []) := by
                intro n85
                induction n85 with
                | zero =>
                  intro i h_i H locs hP hD hS ls hl
                  have ei : 5 = i := by omega
                  subst ei
                  refine lv_iload_n hx hb dX5_digest_85 rfl (lv_at hl 2 rfl) ?_
                  refine lv_iconst (v := 5) hx hb dX5_digest_86 (by decide) ?_
                  refine lv_icmp_ge (tgt := 110) hx hb dX5_digest_87 (by decide) (fun c4 => ?_) (fun c4 => absurd (nI_le (a := 5) (b := 5) (by omega) (by omega)) c4)
                  have c4 := z_nlt c4
                  refine lv_lload_n hx hb dX5_digest_110 rfl (lv_at hl 1 rfl) ?_
                  refine lv_aload_n hx hb dX5_digest_111 rfl (lv_at hl 0 rfl) ?_
                  refine va_get (v := .ref (ad 0)) hx hb hts inTX5 hown hK hP (19 + (3 + (0))) ((bk_r).trans ((tx_r).trans (xo_0))) rfl 0 (by decide) (hts _ qf_X5_10) (fun _ h9 => h9) (rfl) dX5_digest_112 ?_
                  refine z_callV1 (rest := [.long (dgN (fun i => mpP z i n) (dgM z (cA z) (cBc z n) (cCc z) (dgN z (dgN (fun i => numP z n kp (nI i)) 2539 14) 5) n) 5)]) S (c_X0_missingVotes (n := n) (show n ≤ 8 by omega) (hz)) qm_X5_236 v_X0_missingVotes ⟨Nat.le_of_ble_eq_true rfl, Nat.le_of_ble_eq_true rfl⟩ rfl rfl hN hK hP hD hS hA (0) (bk_0) rfl rfl hl.1 rfl (Nat.le_of_ble_eq_true rfl) dX5_digest_115 ⟨Nat.le_of_ble_eq_true rfl, Nat.le_of_ble_eq_true rfl⟩ (fun H locs hP hD hS => ?_)
                  refine lv_i2l hx hb dX5_digest_118 rfl ?_
                  refine z_callS1 (rest := []) S (c_X5_mixed (dgN (fun i => mpP z i n) (dgM z (cA z) (cBc z n) (cCc z) (dgN z (dgN (fun i => numP z n kp (nI i)) 2539 14) 5) n) 5) ((misP z n).toInt64)) qm_X5_250 t_X5_mixed ⟨Nat.le_of_ble_eq_true rfl, Nat.le_of_ble_eq_true rfl⟩ rfl rfl hN hK hP hD hS hA rfl hl.1 rfl (Nat.le_of_ble_eq_true rfl) dX5_digest_119 ⟨Nat.le_of_ble_eq_true rfl, Nat.le_of_ble_eq_true rfl⟩ (fun H locs hP hD hS => ?_)
                  refine lv_lstore_n (lv' := [(1, .long (mx (dgN (fun i => mpP z i n) (dgM z (cA z) (cBc z n) (cCc z) (dgN z (dgN (fun i => numP z n kp (nI i)) 2539 14) 5) n) 5) ((misP z n).toInt64))), (0, .ref x), (3, .int (nI 5))]) hx hb dX5_digest_122 rfl hl (by decide) rfl (fun ls hl => ?_)
                  refine lv_lload_n hx hb dX5_digest_123 rfl (lv_at hl 0 rfl) ?_
                  refine lv_aload_n hx hb dX5_digest_124 rfl (lv_at hl 1 rfl) ?_
                  refine va_get (v := .ref (ad 0)) hx hb hts inTX5 hown hK hP (19 + (3 + (0))) ((bk_r).trans ((tx_r).trans (xo_0))) rfl 0 (by decide) (hts _ qf_X5_10) (fun _ h9 => h9) (rfl) dX5_digest_125 ?_
                  refine z_callV1 (rest := [.long (mx (dgN (fun i => mpP z i n) (dgM z (cA z) (cBc z n) (cCc z) (dgN z (dgN (fun i => numP z n kp (nI i)) 2539 14) 5) n) 5) ((misP z n).toInt64))]) S (c_X0_valueOfMinute (n := n) (show n ≤ 8 by omega) (hz)) qm_X5_244 v_X0_valueOfMinute ⟨Nat.le_of_ble_eq_true rfl, Nat.le_of_ble_eq_true rfl⟩ rfl rfl hN hK hP hD hS hA (0) (bk_0) rfl rfl hl.1 rfl (Nat.le_of_ble_eq_true rfl) dX5_digest_128 ⟨Nat.le_of_ble_eq_true rfl, Nat.le_of_ble_eq_true rfl⟩ (fun H locs hP hD hS => ?_)
                  refine z_callS1 (rest := [.long (mx (dgN (fun i => mpP z i n) (dgM z (cA z) (cBc z n) (cCc z) (dgN z (dgN (fun i => numP z n kp (nI i)) 2539 14) 5) n) 5) ((misP z n).toInt64))]) S (c_X5_bitsOfWorth (vomP z n) hn1 hn2) qm_X5_258 t_X5_bitsOfWorth ⟨Nat.le_of_ble_eq_true rfl, Nat.le_of_ble_eq_true rfl⟩ rfl rfl hN hK hP hD hS hA rfl hl.1 rfl (Nat.le_of_ble_eq_true rfl) dX5_digest_131 ⟨Nat.le_of_ble_eq_true rfl, Nat.le_of_ble_eq_true rfl⟩ (fun H locs hP hD hS => ?_)
                  refine z_callS1 (rest := []) S (c_X5_mixed (mx (dgN (fun i => mpP z i n) (dgM z (cA z) (cBc z n) (cCc z) (dgN z (dgN (fun i => numP z n kp (nI i)) 2539 14) 5) n) 5) ((misP z n).toInt64)) (bwP (vomP z n))) qm_X5_250 t_X5_mixed ⟨Nat.le_of_ble_eq_true rfl, Nat.le_of_ble_eq_true rfl⟩ rfl rfl hN hK hP hD hS hA rfl hl.1 rfl (Nat.le_of_ble_eq_true rfl) dX5_digest_134 ⟨Nat.le_of_ble_eq_true rfl, Nat.le_of_ble_eq_true rfl⟩ (fun H locs hP hD hS => ?_)
                  refine lv_lstore_n (lv' := [(1, .long (mx (mx (dgN (fun i => mpP z i n) (dgM z (cA z) (cBc z n) (cCc z) (dgN z (dgN (fun i => numP z n kp (nI i)) 2539 14) 5) n) 5) ((misP z n).toInt64)) (bwP (vomP z n)))), (0, .ref x), (3, .int (nI 5))]) hx hb dX5_digest_137 rfl hl (by decide) rfl (fun ls hl => ?_)
                  refine lv_aload_n hx hb dX5_digest_138 rfl (lv_at hl 1 rfl) ?_
                  refine lv_lload_n hx hb dX5_digest_139 rfl (lv_at hl 0 rfl) ?_
                  refine z_callV1 (rest := []) S (c_X5_mixedText (nb := nb) (by omega) (mx (mx (dgN (fun i => mpP z i n) (dgM z (cA z) (cBc z n) (cCc z) (dgN z (dgN (fun i => numP z n kp (nI i)) 2539 14) 5) n) 5) ((misP z n).toInt64)) (bwP (vomP z n)))) qm_X5_262 v_X5_mixedText ⟨Nat.le_of_ble_eq_true rfl, Nat.le_of_ble_eq_true rfl⟩ rfl rfl hN hK hP hD hS hA (19 + (3 + (0))) ((bk_r).trans ((tx_r).trans (xo_0))) rfl rfl hl.1 rfl (Nat.le_of_ble_eq_true rfl) dX5_digest_140 ⟨Nat.le_of_ble_eq_true rfl, Nat.le_of_ble_eq_true rfl⟩ (fun H locs hP hD hS => ?_)
                  exact z_lret hx hb hr hlocks hP hD hK hS (rfl) (rfl) dX5_digest_143
                | succ n85 ih85 =>
                  intro i h_i H locs hP hD hS ls hl
                  have li : i < 5 := by omega
                  refine lv_iload_n hx hb dX5_digest_85 rfl (lv_at hl 2 rfl) ?_
                  refine lv_iconst (v := 5) hx hb dX5_digest_86 (by decide) ?_
                  refine lv_icmp_ge (tgt := 110) hx hb dX5_digest_87 (by decide) (fun c5 => absurd c5 (nI_ge (a := i) (b := 5) (by omega) (by omega))) (fun c5 => ?_)
                  have c5 := z_lt c5
                  refine lv_lload_n hx hb dX5_digest_90 rfl (lv_at hl 1 rfl) ?_
                  refine lv_aload_n hx hb dX5_digest_91 rfl (lv_at hl 0 rfl) ?_
                  refine va_get (v := .ref (ad 0)) hx hb hts inTX5 hown hK hP (19 + (3 + (0))) ((bk_r).trans ((tx_r).trans (xo_0))) rfl 0 (by decide) (hts _ qf_X5_10) (fun _ h9 => h9) (rfl) dX5_digest_92 ?_
                  refine lv_iload_n hx hb dX5_digest_95 rfl (lv_at hl 2 rfl) ?_
                  refine z_callV1 (rest := [.long (dgN (fun i => mpP z i n) (dgM z (cA z) (cBc z n) (cCc z) (dgN z (dgN (fun i => numP z n kp (nI i)) 2539 14) 5) n) i)]) S (c_X0_mostPractised (n := n) (show n ≤ 8 by omega) (hz) i (show i < 5 by omega)) qm_X5_241 v_X0_mostPractised ⟨Nat.le_of_ble_eq_true rfl, Nat.le_of_ble_eq_true rfl⟩ rfl rfl hN hK hP hD hS hA (0) (bk_0) rfl rfl hl.1 rfl (Nat.le_of_ble_eq_true rfl) dX5_digest_96 ⟨Nat.le_of_ble_eq_true rfl, Nat.le_of_ble_eq_true rfl⟩ (fun H locs hP hD hS => ?_)
                  refine lv_i2l hx hb dX5_digest_99 rfl ?_
                  refine z_callS1 (rest := []) S (c_X5_mixed (dgN (fun i => mpP z i n) (dgM z (cA z) (cBc z n) (cCc z) (dgN z (dgN (fun i => numP z n kp (nI i)) 2539 14) 5) n) i) ((mpP z i n).toInt64)) qm_X5_250 t_X5_mixed ⟨Nat.le_of_ble_eq_true rfl, Nat.le_of_ble_eq_true rfl⟩ rfl rfl hN hK hP hD hS hA rfl hl.1 rfl (Nat.le_of_ble_eq_true rfl) dX5_digest_100 ⟨Nat.le_of_ble_eq_true rfl, Nat.le_of_ble_eq_true rfl⟩ (fun H locs hP hD hS => ?_)
                  refine lv_lstore_n (lv' := [(1, .long (mx (dgN (fun i => mpP z i n) (dgM z (cA z) (cBc z n) (cCc z) (dgN z (dgN (fun i => numP z n kp (nI i)) 2539 14) 5) n) i) ((mpP z i n).toInt64))), (0, .ref x), (3, .int (nI i))]) hx hb dX5_digest_103 rfl hl (by decide) rfl (fun ls hl => ?_)
                  refine lv_iinc (v := nI (i + 1)) (lv' := [(3, .int (nI (i + 1))), (1, .long (mx (dgN (fun i => mpP z i n) (dgM z (cA z) (cBc z n) (cCc z) (dgN z (dgN (fun i => numP z n kp (nI i)) 2539 14) 5) n) i) ((mpP z i n).toInt64))), (0, .ref x)]) hx hb dX5_digest_104 hl (k := 2) rfl (nI_1 _) (by decide) rfl (fun ls hl => ?_)
                  refine lv_goto (tgt := 85) hx hb dX5_digest_107 (by decide) ?_
                  have hl := (congrArg (fun qv_ => lv_has ls 4 [(3, .int (nI (i + 1))), (1, qv_), (0, .ref x)]) (show Value.long (mx (dgN (fun i => mpP z i n) (dgM z (cA z) (cBc z n) (cCc z) (dgN z (dgN (fun i => numP z n kp (nI i)) 2539 14) 5) n) i) ((mpP z i n).toInt64)) = .long (dgN (fun i => mpP z i n) (dgM z (cA z) (cBc z n) (cCc z) (dgN z (dgN (fun i => numP z n kp (nI i)) 2539 14) 5) n) (i + 1)) from congrArg Value.long (rfl))).mp hl
                  exact ih85 (i + 1) (by omega) _ _ hP hD hS ls (lv_sub hl [2, 1, 0] rfl)
              have hl := (congrArg (fun qv_ => lv_has ls 4 [(3, .int 0), (0, .ref x), (1, qv_)]) (show Value.long (dgM z (cA z) (cBc z n) (cCc z) (dgN z (dgN (fun i => numP z n kp (nI i)) 2539 14) 5) n) = .long (dgN (fun i => mpP z i n) (dgM z (cA z) (cBc z n) (cCc z) (dgN z (dgN (fun i => numP z n kp (nI i)) 2539 14) 5) n) 0) from congrArg Value.long (rfl))).mp hl
              have hl := (congrArg (fun qv_ => lv_has ls 4 [(3, qv_), (0, .ref x), (1, .long (dgN (fun i => mpP z i n) (dgM z (cA z) (cBc z n) (cCc z) (dgN z (dgN (fun i => numP z n kp (nI i)) 2539 14) 5) n) 0))]) (show Value.int 0 = .int (nI 0) from congrArg Value.int (rfl))).mp hl
              exact K85 5 0 (by omega) _ _ hP hD hS ls (lv_sub hl [1, 2, 0] rfl)
            | succ n59 ih59 =>
              intro i h_i H locs hP hD hS ls hl
              have li : i < n := by omega
              refine lv_iload_n hx hb dX5_digest_59 rfl (lv_at hl 2 rfl) ?_
              refine lv_aload_n hx hb dX5_digest_60 rfl (lv_at hl 0 rfl) ?_
              refine va_get (v := .ref (ad 0)) hx hb hts inTX5 hown hK hP (19 + (3 + (0))) ((bk_r).trans ((tx_r).trans (xo_0))) rfl 0 (by decide) (hts _ qf_X5_10) (fun _ h9 => h9) (rfl) dX5_digest_61 ?_
              refine va_get (v := .int (nI n)) hx hb hts inTX0 hown hK hP (0) (bk_0) rfl 2 (by decide) (hts _ qf_X5_30) (fun _ h9 => h9) (congrArg (fun x => some (Value.int x)) (hz)) dX5_digest_64 ?_
              refine lv_icmp_ge (tgt := 83) hx hb dX5_digest_67 (by decide) (fun c6 => absurd c6 (nI_ge (a := i) (b := n) (by omega) (by omega))) (fun c6 => ?_)
              have c6 := z_lt c6
              refine lv_aload_n hx hb dX5_digest_70 rfl (lv_at hl 0 rfl) ?_
              refine lv_lload_n hx hb dX5_digest_71 rfl (lv_at hl 1 rfl) ?_
              refine lv_iload_n hx hb dX5_digest_72 rfl (lv_at hl 2 rfl) ?_
              refine z_callV1 (rest := []) S (c_X5_mixedMember (n := n) (show n ≤ 8 by omega) (hz) (dgM z (cA z) (cBc z n) (cCc z) (dgN z (dgN (fun i => numP z n kp (nI i)) 2539 14) 5) i) i (show i < 8 by omega)) qm_X5_254 v_X5_mixedMember ⟨Nat.le_of_ble_eq_true rfl, Nat.le_of_ble_eq_true rfl⟩ rfl rfl hN hK hP hD hS hA (19 + (3 + (0))) ((bk_r).trans ((tx_r).trans (xo_0))) rfl rfl hl.1 rfl (Nat.le_of_ble_eq_true rfl) dX5_digest_73 ⟨Nat.le_of_ble_eq_true rfl, Nat.le_of_ble_eq_true rfl⟩ (fun H locs hP hD hS => ?_)
              refine lv_lstore_n (lv' := [(1, .long (mmG z (dgM z (cA z) (cBc z n) (cCc z) (dgN z (dgN (fun i => numP z n kp (nI i)) 2539 14) 5) i) i (cA z i) (cBc z n i) (cCc z i))), (0, .ref x), (3, .int (nI i))]) hx hb dX5_digest_76 rfl hl (by decide) rfl (fun ls hl => ?_)
              refine lv_iinc (v := nI (i + 1)) (lv' := [(3, .int (nI (i + 1))), (1, .long (mmG z (dgM z (cA z) (cBc z n) (cCc z) (dgN z (dgN (fun i => numP z n kp (nI i)) 2539 14) 5) i) i (cA z i) (cBc z n i) (cCc z i))), (0, .ref x)]) hx hb dX5_digest_77 hl (k := 2) rfl (nI_1 _) (by decide) rfl (fun ls hl => ?_)
              refine lv_goto (tgt := 59) hx hb dX5_digest_80 (by decide) ?_
              have hl := (congrArg (fun qv_ => lv_has ls 4 [(3, .int (nI (i + 1))), (1, qv_), (0, .ref x)]) (show Value.long (mmG z (dgM z (cA z) (cBc z n) (cCc z) (dgN z (dgN (fun i => numP z n kp (nI i)) 2539 14) 5) i) i (cA z i) (cBc z n i) (cCc z i)) = .long (dgM z (cA z) (cBc z n) (cCc z) (dgN z (dgN (fun i => numP z n kp (nI i)) 2539 14) 5) (i + 1)) from congrArg Value.long (rfl))).mp hl
              exact ih59 (i + 1) (by omega) _ _ hP hD hS ls (lv_sub hl [2, 1, 0] rfl)
          have hl := (congrArg (fun qv_ => lv_has ls 4 [(3, .int 0), (0, .ref x), (1, qv_)]) (show Value.long (dgN z (dgN (fun i => numP z n kp (nI i)) 2539 14) 5) = .long (dgM z (cA z) (cBc z n) (cCc z) (dgN z (dgN (fun i => numP z n kp (nI i)) 2539 14) 5) 0) from congrArg Value.long (rfl))).mp hl
          have hl := (congrArg (fun qv_ => lv_has ls 4 [(3, qv_), (0, .ref x), (1, .long (dgM z (cA z) (cBc z n) (cCc z) (dgN z (dgN (fun i => numP z n kp (nI i)) 2539 14) 5) 0))]) (show Value.int 0 = .int (nI 0) from congrArg Value.int (rfl))).mp hl
          exact K59 n 0 (by omega) _ _ hP hD hS ls (lv_sub hl [1, 2, 0] rfl)
        | succ n31 ih31 =>
          intro i h_i H locs hP hD hS ls hl
          have li : i < 5 := by omega
          refine lv_iload_n hx hb dX5_digest_31 rfl (lv_at hl 2 rfl) ?_
          refine lv_iconst (v := 5) hx hb dX5_digest_32 (by decide) ?_
          refine lv_icmp_ge (tgt := 57) hx hb dX5_digest_33 (by decide) (fun c7 => absurd c7 (nI_ge (a := i) (b := 5) (by omega) (by omega))) (fun c7 => ?_)
          have c7 := z_lt c7
          refine lv_lload_n hx hb dX5_digest_36 rfl (lv_at hl 1 rfl) ?_
          refine lv_aload_n hx hb dX5_digest_37 rfl (lv_at hl 0 rfl) ?_
          refine va_get (v := .ref (ad 0)) hx hb hts inTX5 hown hK hP (19 + (3 + (0))) ((bk_r).trans ((tx_r).trans (xo_0))) rfl 0 (by decide) (hts _ qf_X5_10) (fun _ h9 => h9) (rfl) dX5_digest_38 ?_
          refine va_get (v := .ref (ad 2)) hx hb hts inTX0 hown hK hP (0) (bk_0) rfl 1 (by decide) (hts _ qf_X5_133) (fun _ h9 => h9) (rfl) dX5_digest_41 ?_
          refine lv_iload_n hx hb dX5_digest_44 rfl (lv_at hl 2 rfl) ?_
          refine va_iald hx hb hK hP (2) 0 (bk_2) rfl (vp_in_nI (show i < 5 by omega) (by omega)) dX5_digest_45 ?_
          refine z_top (v2 := .int (z i)) (congrArg Value.int ((sfn_at rfl (show i < 5 by omega)).trans (rfl))) ?_
          refine lv_i2l hx hb dX5_digest_46 rfl ?_
          refine z_callS1 (rest := []) S (c_X5_mixed (dgN z (dgN (fun i => numP z n kp (nI i)) 2539 14) i) ((z i).toInt64)) qm_X5_250 t_X5_mixed ⟨Nat.le_of_ble_eq_true rfl, Nat.le_of_ble_eq_true rfl⟩ rfl rfl hN hK hP hD hS hA rfl hl.1 rfl (Nat.le_of_ble_eq_true rfl) dX5_digest_47 ⟨Nat.le_of_ble_eq_true rfl, Nat.le_of_ble_eq_true rfl⟩ (fun H locs hP hD hS => ?_)
          refine lv_lstore_n (lv' := [(1, .long (mx (dgN z (dgN (fun i => numP z n kp (nI i)) 2539 14) i) ((z i).toInt64))), (0, .ref x), (3, .int (nI i))]) hx hb dX5_digest_50 rfl hl (by decide) rfl (fun ls hl => ?_)
          refine lv_iinc (v := nI (i + 1)) (lv' := [(3, .int (nI (i + 1))), (1, .long (mx (dgN z (dgN (fun i => numP z n kp (nI i)) 2539 14) i) ((z i).toInt64))), (0, .ref x)]) hx hb dX5_digest_51 hl (k := 2) rfl (nI_1 _) (by decide) rfl (fun ls hl => ?_)
          refine lv_goto (tgt := 31) hx hb dX5_digest_54 (by decide) ?_
          have hl := (congrArg (fun qv_ => lv_has ls 4 [(3, .int (nI (i + 1))), (1, qv_), (0, .ref x)]) (show Value.long (mx (dgN z (dgN (fun i => numP z n kp (nI i)) 2539 14) i) ((z i).toInt64)) = .long (dgN z (dgN (fun i => numP z n kp (nI i)) 2539 14) (i + 1)) from congrArg Value.long (rfl))).mp hl
          exact ih31 (i + 1) (by omega) _ _ hP hD hS ls (lv_sub hl [2, 1, 0] rfl)
      have hl := (congrArg (fun qv_ => lv_has ls 4 [(3, .int 0), (0, .ref x), (1, qv_)]) (show Value.long (dgN (fun i => numP z n kp (nI i)) 2539 14) = .long (dgN z (dgN (fun i => numP z n kp (nI i)) 2539 14) 0) from congrArg Value.long (rfl))).mp hl
      have hl := (congrArg (fun qv_ => lv_has ls 4 [(3, qv_), (0, .ref x), (1, .long (dgN z (dgN (fun i => numP z n kp (nI i)) 2539 14) 0))]) (show Value.int 0 = .int (nI 0) from congrArg Value.int (rfl))).mp hl
      exact K31 5 0 (by omega) _ _ hP hD hS ls (lv_sub hl [1, 2, 0] rfl)
    | succ n6 ih6 =>
      intro i h_i H locs hP hD hS ls hl
      have li : i < 14 := by omega
      refine lv_iload_n hx hb dX5_digest_6 rfl (lv_at hl 2 rfl) ?_
      refine lv_bipush (v := 14) hx hb dX5_digest_7 (by decide) ?_
      refine lv_icmp_ge (tgt := 29) hx hb dX5_digest_9 (by decide) (fun c8 => absurd c8 (nI_ge (a := i) (b := 14) (by omega) (by omega))) (fun c8 => ?_)
      have c8 := z_lt c8
      refine lv_lload_n hx hb dX5_digest_12 rfl (lv_at hl 1 rfl) ?_
      refine lv_aload_n hx hb dX5_digest_13 rfl (lv_at hl 0 rfl) ?_
      refine lv_iload_n hx hb dX5_digest_14 rfl (lv_at hl 2 rfl) ?_
      refine z_callV1 (rest := [.long (dgN (fun i => numP z n kp (nI i)) 2539 i)]) S (c_X5_number (n := n) (show n ≤ 8 by omega) (hz) (nI i)) qm_X5_220 v_X5_number ⟨Nat.le_of_ble_eq_true rfl, Nat.le_of_ble_eq_true rfl⟩ rfl rfl hN hK hP hD hS hA (19 + (3 + (0))) ((bk_r).trans ((tx_r).trans (xo_0))) rfl rfl hl.1 rfl (Nat.le_of_ble_eq_true rfl) dX5_digest_15 ⟨Nat.le_of_ble_eq_true rfl, Nat.le_of_ble_eq_true rfl⟩ (fun H locs hP hD hS => ?_)
      refine lv_i2l hx hb dX5_digest_18 rfl ?_
      refine z_callS1 (rest := []) S (c_X5_mixed (dgN (fun i => numP z n kp (nI i)) 2539 i) ((numP z n kp (nI i)).toInt64)) qm_X5_250 t_X5_mixed ⟨Nat.le_of_ble_eq_true rfl, Nat.le_of_ble_eq_true rfl⟩ rfl rfl hN hK hP hD hS hA rfl hl.1 rfl (Nat.le_of_ble_eq_true rfl) dX5_digest_19 ⟨Nat.le_of_ble_eq_true rfl, Nat.le_of_ble_eq_true rfl⟩ (fun H locs hP hD hS => ?_)
      refine lv_lstore_n (lv' := [(1, .long (mx (dgN (fun i => numP z n kp (nI i)) 2539 i) ((numP z n kp (nI i)).toInt64))), (0, .ref x), (3, .int (nI i))]) hx hb dX5_digest_22 rfl hl (by decide) rfl (fun ls hl => ?_)
      refine lv_iinc (v := nI (i + 1)) (lv' := [(3, .int (nI (i + 1))), (1, .long (mx (dgN (fun i => numP z n kp (nI i)) 2539 i) ((numP z n kp (nI i)).toInt64))), (0, .ref x)]) hx hb dX5_digest_23 hl (k := 2) rfl (nI_1 _) (by decide) rfl (fun ls hl => ?_)
      refine lv_goto (tgt := 6) hx hb dX5_digest_26 (by decide) ?_
      have hl := (congrArg (fun qv_ => lv_has ls 4 [(3, .int (nI (i + 1))), (1, qv_), (0, .ref x)]) (show Value.long (mx (dgN (fun i => numP z n kp (nI i)) 2539 i) ((numP z n kp (nI i)).toInt64)) = .long (dgN (fun i => numP z n kp (nI i)) 2539 (i + 1)) from congrArg Value.long (rfl))).mp hl
      exact ih6 (i + 1) (by omega) _ _ hP hD hS ls (lv_sub hl [2, 1, 0] rfl)
  have hl := (congrArg (fun qv_ => lv_has ls 4 [(3, .int 0), (1, qv_), (0, .ref x)]) (show Value.long (2539) = .long (dgN (fun i => numP z n kp (nI i)) 2539 0) from congrArg Value.long (rfl))).mp hl
  have hl := (congrArg (fun qv_ => lv_has ls 4 [(3, qv_), (1, .long (dgN (fun i => numP z n kp (nI i)) 2539 0)), (0, .ref x)]) (show Value.int 0 = .int (nI 0) from congrArg Value.int (rfl))).mp hl
  exact K6 14 0 (by omega) _ _ hP hD hS ls (lv_sub hl [2, 1, 0] rfl)
set_option maxHeartbeats 4000000 in
set_option maxRecDepth 100000 in
theorem c_Jxe99ae_isNaN_b9ae7 (dv : UInt64) (hd : vf_n64 dv) : zM l D (zT cI cC cM cB cJ) yJxe99ae_isNaN_b9ae7 cJxe99ae_isNaN_b9ae7 2 (some .boolean) ({ frames := 0, cells := 0, slots := 0, locals := 0 } : Room) [.double dv] (wr) (wr) (some (.int 0)) 0 0 := by
  refine z_enter (by decide) (Nat.le_of_ble_eq_true rfl) ?_
  intro p e s m below meth c A S hr hlocks hnm hN hA hK hP hD hS ls hl
  obtain ⟨hx, hb, hml, hown, hts⟩ := id S
  have hl : lv_has ls 2 [(0, .double dv)] := hl
  have hP : va_P D vwCl (wr) s.heap := hP
  have hD : va_D A (wr) := hD
  refine lv_dload_n hx hb dJxe99ae_isNaN_b9ae7_0 rfl (lv_at hl 0 rfl) ?_
  refine lv_dload_n hx hb dJxe99ae_isNaN_b9ae7_1 rfl (lv_at hl 0 rfl) ?_
  refine lv_dcmp hx hb dJxe99ae_isNaN_b9ae7_2 ?_
  refine z_top (v2 := .int 0) (congrArg Value.int (dcmp_0 hd)) ?_
  refine lv_if_eq (tgt := 10) hx hb dJxe99ae_isNaN_b9ae7_3 (by decide) (fun c1 => ?_) (fun c1 => absurd (by decide) c1)
  refine lv_iconst (v := 0) hx hb dJxe99ae_isNaN_b9ae7_10 (by decide) ?_
  exact z_zret hx hb hr hlocks hP hD hK hS (rfl) (by first | rfl | (simp only [minP, maxP, c1, not_true_eq_false, not_false_eq_true, and_self, and_true, true_and, and_false, false_and, or_true, true_or, or_false, false_or, if_true, if_false, ite_true, ite_false]; done) | (simp [minP, maxP, c1]; done) | (simp_all [minP, maxP]; done)) rfl dJxe99ae_isNaN_b9ae7_11
set_option maxHeartbeats 4000000 in
set_option maxRecDepth 100000 in
theorem c_Jxe99ae_doubleToLongBits_ccdee (dv : UInt64) (hd : vf_n64 dv) : zM l D (zT cI cC cM cB cJ) yJxe99ae_doubleToLongBits_ccdee cJxe99ae_doubleToLongBits_ccdee 2 (some .long) ({ frames := 2, cells := 0, slots := 0, locals := 60 } : Room) [.double dv] (wr) (wr) (some (.long dv.toInt64)) 0 0 := by
  refine z_enter (by decide) (Nat.le_of_ble_eq_true rfl) ?_
  intro p e s m below meth c A S hr hlocks hnm hN hA hK hP hD hS ls hl
  obtain ⟨hx, hb, hml, hown, hts⟩ := id S
  have hl : lv_has ls 2 [(0, .double dv)] := hl
  have hP : va_P D vwCl (wr) s.heap := hP
  have hD : va_D A (wr) := hD
  refine lv_dload_n hx hb dJxe99ae_doubleToLongBits_ccdee_0 rfl (lv_at hl 0 rfl) ?_
  refine z_callS1 (rest := []) S (c_Jxe99ae_isNaN_b9ae7 dv hd) qm_Jxe99ae_122 t_Jxe99ae_isNaN_b9ae7 ⟨Nat.le_of_ble_eq_true rfl, Nat.le_of_ble_eq_true rfl⟩ rfl rfl hN hK hP hD hS hA rfl hl.1 rfl (Nat.le_of_ble_eq_true rfl) dJxe99ae_doubleToLongBits_ccdee_1 ⟨Nat.le_of_ble_eq_true rfl, Nat.le_of_ble_eq_true rfl⟩ (fun H locs hP hD hS => ?_)
  refine lv_if_ne (tgt := 12) hx hb dJxe99ae_doubleToLongBits_ccdee_4 (by decide) (fun c1 => absurd c1 (by decide)) (fun c1 => ?_)
  refine lv_dload_n hx hb dJxe99ae_doubleToLongBits_ccdee_7 rfl (lv_at hl 0 rfl) ?_
  refine vn_d2l hx hb (hml.trans hl.1.symm) hown (hts _ qm_dbl_134) (hts _ qv_dbl_raw) (hts _ qt_dbl_raw) (hts _ qn_Jxe99ae) (Nat.le_of_ble_eq_true rfl) (Nat.le_of_ble_eq_true rfl) dJxe99ae_doubleToLongBits_ccdee_8 ?_
  exact z_lret hx hb hr hlocks hP hD hK hS (rfl) (rfl) dJxe99ae_doubleToLongBits_ccdee_11
end XB
