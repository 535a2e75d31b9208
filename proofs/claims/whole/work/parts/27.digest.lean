/-! The reference's digest. -/
def keI (ke z : Nat → Int32) : Nat → Nat → Int32
  | 0 => ke
  | i + 1 => kpF (keI ke z i) z 142

section XB
variable {l : Launch} {D : va_G} {cI cC cM cB cJ : ClassId} {q : Nat → Nat} {z hi tx pa ke mr : Nat → Int32} {hs : Int64} {wr : va_W}
set_option maxHeartbeats 4000000 in
set_option maxRecDepth 100000 in
theorem c_X6_mix (v : Int64) : zM l D (zT cI cC cM cB cJ) yX6_mix cX6_mix 3 none ({ frames := 0, cells := 0, slots := 0, locals := 0 } : Room) [.ref (q 0), .long v] (moW cI q z hi tx pa ke mr hs wr) (moW cI q z hi tx pa ke mr (mx hs v) wr) none 0 0 := by
  refine z_enter (by decide) (Nat.le_of_ble_eq_true rfl) ?_
  intro p e s m below meth c A S hr hlocks hnm hN hA hK hP hD hS ls hl
  obtain ⟨hx, hb, hml, hown, hts⟩ := id S
  have hl : lv_has ls 3 [(0, .ref (q 0)), (1, .long v)] := hl
  have hP : va_P D vwCl (moW cI q z hi tx pa ke mr hs wr) s.heap := hP
  have hD : va_D A (moW cI q z hi tx pa ke mr hs wr) := hD
  refine lv_aload_n hx hb dX6_mix_0 rfl (lv_at hl 0 rfl) ?_
  refine lv_ldc2 (v := (31)) hx hb hown (hts _ ql_X6_182) dX6_mix_1 ?_
  refine lv_aload_n hx hb dX6_mix_4 rfl (lv_at hl 0 rfl) ?_
  refine va_get (v := .long hs) hx hb hts inTX6 hown hK hP (0) (mo_0) rfl 11 (by decide) (hts _ qf_X6_184) (fun _ h9 => h9) (rfl) dX6_mix_5 ?_
  refine lv_lmul hx hb dX6_mix_8 ?_
  refine lv_lload_n hx hb dX6_mix_9 rfl (lv_at hl 1 rfl) ?_
  refine lv_ladd hx hb dX6_mix_10 ?_
  refine z_put (v := .long (((31) * hs) + v)) (ty := .long) (ws2 := moW cI q z hi tx pa ke mr (((31) * hs) + v) wr) hx hb hts inTX6 tyX6 tyX6_ok nmX6 hown hK hP hD hS (0) (mo_0) rfl 11 (by decide) (hts _ qf_X6_184) (fun _ h9 => h9) rfl (by decide +kernel) (rfl) (rfl) (Nat.le_of_ble_eq_true rfl) dX6_mix_11 (rfl) (fun H locs hP hD hS => ?_)
  exact z_vret hx hb hr hlocks hP hD hK hS (by first | rfl | (simp only [minP, maxP, not_true_eq_false, not_false_eq_true, and_self, and_true, true_and, and_false, false_and, or_true, true_or, or_false, false_or, if_true, if_false, ite_true, ite_false]; done) | (simp [minP, maxP]; done) | (simp_all [minP, maxP]; done)) (rfl) dX6_mix_14
set_option maxHeartbeats 4000000 in
set_option maxRecDepth 100000 in
theorem c_X6_mixMember {n : Nat} (hn : n ≤ 8) (hz : z 5 = nI n) (hB : hBool z) (hV : hVote z) (j : Nat) (hj : j < 8) : zM l D (zT cI cC cM cB cJ) yX6_mixMember cX6_mixMember 3 none ({ frames := 5, cells := 0, slots := 0, locals := 118 } : Room) [.ref (q 0), .int (nI j)] (moW cI q z hi tx pa ke mr hs wr) (moW cI q z hi tx pa (kpF ke z 142) mr (mmG z hs j (mA z j) (mB z n j) (mC z n j)) wr) none 0 0 := by
  refine z_enter (by decide) (Nat.le_of_ble_eq_true rfl) ?_
  intro p e s m below meth c A S hr hlocks hnm hN hA hK hP hD hS ls hl
  obtain ⟨hx, hb, hml, hown, hts⟩ := id S
  have hl : lv_has ls 3 [(0, .ref (q 0)), (1, .int (nI j))] := hl
  have hP : va_P D vwCl (moW cI q z hi tx pa ke mr hs wr) s.heap := hP
  have hD : va_D A (moW cI q z hi tx pa ke mr hs wr) := hD
  refine lv_iconst (v := 0) hx hb dX6_mixMember_0 (by decide) ?_
  refine lv_istore_n (lv' := [(2, .int 0), (0, .ref (q 0)), (1, .int (nI j))]) hx hb dX6_mixMember_1 rfl hl (by decide) rfl (fun ls hl => ?_)
  have K2 : ∀ (n2 w : Nat), w + n2 = 12 → ∀ (H : Heap) (locs : List Loc), va_P D vwCl (moW cI q z hi tx pa ke mr (dgN (fun w => prpP z j (nI w)) hs w) wr) H → va_D A (moW cI q z hi tx pa ke mr (dgN (fun w => prpP z j (nI w)) hs w) wr) → va_S A s.heap H locs → ∀ ls : Array Slot, lv_has ls 3 [(0, .ref (q 0)), (1, .int (nI j)), (2, .int (nI w))] → W p l e ({ frames := 5, cells := 0, slots := 0, locals := 118 } : Room) s m ([.ref (q 0), .int (nI j)] : List Value).toArray below meth c H locs 0 0 (MQ below (zQ D (zT cI cC cM cB cJ) (moW cI q z hi tx pa (kpF ke z 142) mr (mmG z hs j (mA z j) (mB z n j) (mC z n j)) wr) none A) ([.ref (q 0), .int (nI j)] : List Value).toArray s 0 0 A) (F0 m 2 ls []) := by
    intro n2
    induction n2 with
    | zero =>
      intro w h_w H locs hP hD hS ls hl
      have ew : 12 = w := by omega
      subst ew
      refine lv_iload_n hx hb dX6_mixMember_2 rfl (lv_at hl 2 rfl) ?_
      refine lv_bipush (v := 12) hx hb dX6_mixMember_3 (by decide) ?_
      refine lv_icmp_ge (tgt := 25) hx hb dX6_mixMember_5 (by decide) (fun c1 => ?_) (fun c1 => absurd (nI_le (a := 12) (b := 12) (by omega) (by omega)) c1)
      have c1 := z_nlt c1
      refine lv_iconst (v := 0) hx hb dX6_mixMember_25 (by decide) ?_
      refine lv_istore_n (lv' := [(2, .int 0), (0, .ref (q 0)), (1, .int (nI j))]) hx hb dX6_mixMember_26 rfl hl (by decide) rfl (fun ls hl => ?_)
      have K27 : ∀ (n27 k : Nat), k + n27 = 5 → ∀ (H : Heap) (locs : List Loc), va_P D vwCl (moW cI q z hi tx pa ke mr (dgP z j (dgN (fun w => prpP z j (nI w)) hs 12) k) wr) H → va_D A (moW cI q z hi tx pa ke mr (dgP z j (dgN (fun w => prpP z j (nI w)) hs 12) k) wr) → va_S A s.heap H locs → ∀ ls : Array Slot, lv_has ls 3 [(0, .ref (q 0)), (1, .int (nI j)), (2, .int (nI k))] → W p l e ({ frames := 5, cells := 0, slots := 0, locals := 118 } : Room) s m ([.ref (q 0), .int (nI j)] : List Value).toArray below meth c H locs 0 0 (MQ below (zQ D (zT cI cC cM cB cJ) (moW cI q z hi tx pa (kpF ke z 142) mr (mmG z hs j (mA z j) (mB z n j) (mC z n j)) wr) none A) ([.ref (q 0), .int (nI j)] : List Value).toArray s 0 0 A) (F0 m 27 ls []) := by
        intro n27
        induction n27 with
        | zero =>
          intro k h_k H locs hP hD hS ls hl
          have ek : 5 = k := by omega
          subst ek
          refine lv_iload_n hx hb dX6_mixMember_27 rfl (lv_at hl 2 rfl) ?_
          refine lv_iconst (v := 5) hx hb dX6_mixMember_28 (by decide) ?_
          refine lv_icmp_ge (tgt := 62) hx hb dX6_mixMember_29 (by decide) (fun c2 => ?_) (fun c2 => absurd (nI_le (a := 5) (b := 5) (by omega) (by omega)) c2)
          have c2 := z_nlt c2
          refine lv_aload_n hx hb dX6_mixMember_62 rfl (lv_at hl 0 rfl) ?_
          refine lv_aload_n hx hb dX6_mixMember_63 rfl (lv_at hl 0 rfl) ?_
          refine lv_iload_n hx hb dX6_mixMember_64 rfl (lv_at hl 1 rfl) ?_
          refine lv_iconst (v := 0) hx hb dX6_mixMember_65 (by decide) ?_
          refine lv_iconst (v := 1) hx hb dX6_mixMember_66 (by decide) ?_
          refine z_callV1 (rest := [.ref (q 0)]) S (c_X6_longestNow (hB) j 0 1 (show j < 8 by omega) (show 0 < 8 by decide) (show 1 < 5 by decide)) qm_X6_163 v_X6_longestNow ⟨Nat.le_of_ble_eq_true rfl, Nat.le_of_ble_eq_true rfl⟩ rfl rfl hN hK hP hD hS hA (0) (mo_0) rfl rfl hl.1 rfl (Nat.le_of_ble_eq_true rfl) dX6_mixMember_67 ⟨Nat.le_of_ble_eq_true rfl, Nat.le_of_ble_eq_true rfl⟩ (fun H locs hP hD hS => ?_)
          refine lv_i2l hx hb dX6_mixMember_70 rfl ?_
          refine z_callV0 (rest := []) S (c_X6_mix ((lgM z j 0 1 600).toInt64)) qm_X6_188 v_X6_mix ⟨Nat.le_of_ble_eq_true rfl, Nat.le_of_ble_eq_true rfl⟩ rfl rfl hN hK hP hD hS hA (0) (mo_0) rfl rfl hl.1 rfl (Nat.le_of_ble_eq_true rfl) dX6_mixMember_71 ⟨Nat.le_of_ble_eq_true rfl, Nat.le_of_ble_eq_true rfl⟩ (fun H locs hP hD hS => ?_)
          refine lv_aload_n hx hb dX6_mixMember_74 rfl (lv_at hl 0 rfl) ?_
          refine lv_aload_n hx hb dX6_mixMember_75 rfl (lv_at hl 0 rfl) ?_
          refine lv_iload_n hx hb dX6_mixMember_76 rfl (lv_at hl 1 rfl) ?_
          refine lv_iconst (v := 1) hx hb dX6_mixMember_77 (by decide) ?_
          refine lv_bipush (v := 60) hx hb dX6_mixMember_78 (by decide) ?_
          refine z_callV1 (rest := [.ref (q 0)]) S (c_X6_cheapestNow (n := n) (show n ≤ 8 by omega) (hz) (hB) j 1 (show j < 8 by omega) (show 1 < 5 by decide) 60) qm_X6_166 v_X6_cheapestNow ⟨Nat.le_of_ble_eq_true rfl, Nat.le_of_ble_eq_true rfl⟩ rfl rfl hN hK hP hD hS hA (0) (mo_0) rfl rfl hl.1 rfl (Nat.le_of_ble_eq_true rfl) dX6_mixMember_80 ⟨Nat.le_of_ble_eq_true rfl, Nat.le_of_ble_eq_true rfl⟩ (fun H locs hP hD hS => ?_)
          refine lv_i2l hx hb dX6_mixMember_83 rfl ?_
          refine z_callV0 (rest := []) S (c_X6_mix ((chM z j 1 60 n).toInt64)) qm_X6_188 v_X6_mix ⟨Nat.le_of_ble_eq_true rfl, Nat.le_of_ble_eq_true rfl⟩ rfl rfl hN hK hP hD hS hA (0) (mo_0) rfl rfl hl.1 rfl (Nat.le_of_ble_eq_true rfl) dX6_mixMember_84 ⟨Nat.le_of_ble_eq_true rfl, Nat.le_of_ble_eq_true rfl⟩ (fun H locs hP hD hS => ?_)
          refine lv_aload_n hx hb dX6_mixMember_87 rfl (lv_at hl 0 rfl) ?_
          refine lv_aload_n hx hb dX6_mixMember_88 rfl (lv_at hl 0 rfl) ?_
          refine lv_iload_n hx hb dX6_mixMember_89 rfl (lv_at hl 1 rfl) ?_
          refine lv_bipush (v := 10) hx hb dX6_mixMember_90 (by decide) ?_
          refine z_callV1 (rest := [.ref (q 0)]) S (c_X6_decaysThen (n := n) (show n ≤ 8 by omega) (hz) (hB) j (show j < 8 by omega) (wk := 10) (by omega)) qm_X6_169 v_X6_decaysThen ⟨Nat.le_of_ble_eq_true rfl, Nat.le_of_ble_eq_true rfl⟩ rfl rfl hN hK hP hD hS hA (0) (mo_0) rfl rfl hl.1 rfl (Nat.le_of_ble_eq_true rfl) dX6_mixMember_92 ⟨Nat.le_of_ble_eq_true rfl, Nat.le_of_ble_eq_true rfl⟩ (fun H locs hP hD hS => ?_)
          refine lv_i2l hx hb dX6_mixMember_95 rfl ?_
          refine z_callV0 (rest := []) S (c_X6_mix ((dcM z n j 10).toInt64)) qm_X6_188 v_X6_mix ⟨Nat.le_of_ble_eq_true rfl, Nat.le_of_ble_eq_true rfl⟩ rfl rfl hN hK hP hD hS hA (0) (mo_0) rfl rfl hl.1 rfl (Nat.le_of_ble_eq_true rfl) dX6_mixMember_96 ⟨Nat.le_of_ble_eq_true rfl, Nat.le_of_ble_eq_true rfl⟩ (fun H locs hP hD hS => ?_)
          exact z_vret hx hb hr hlocks hP hD hK hS (rfl) (rfl) dX6_mixMember_99
        | succ n27 ih27 =>
          intro k h_k H locs hP hD hS ls hl
          have lk : k < 5 := by omega
          refine lv_iload_n hx hb dX6_mixMember_27 rfl (lv_at hl 2 rfl) ?_
          refine lv_iconst (v := 5) hx hb dX6_mixMember_28 (by decide) ?_
          refine lv_icmp_ge (tgt := 62) hx hb dX6_mixMember_29 (by decide) (fun c3 => absurd c3 (nI_ge (a := k) (b := 5) (by omega) (by omega))) (fun c3 => ?_)
          have c3 := z_lt c3
          refine lv_aload_n hx hb dX6_mixMember_32 rfl (lv_at hl 0 rfl) ?_
          refine lv_aload_n hx hb dX6_mixMember_33 rfl (lv_at hl 0 rfl) ?_
          refine lv_iload_n hx hb dX6_mixMember_34 rfl (lv_at hl 1 rfl) ?_
          refine lv_iload_n hx hb dX6_mixMember_35 rfl (lv_at hl 2 rfl) ?_
          refine lv_iconst (v := 0) hx hb dX6_mixMember_36 (by decide) ?_
          refine z_callV1 (rest := [.ref (q 0)]) S (c_X6_skillNow j k (show j < 8 by omega) (show k < 5 by omega) 0) qm_X6_150 v_X6_skillNow ⟨Nat.le_of_ble_eq_true rfl, Nat.le_of_ble_eq_true rfl⟩ rfl rfl hN hK hP hD hS hA (0) (mo_0) rfl rfl hl.1 rfl (Nat.le_of_ble_eq_true rfl) dX6_mixMember_37 ⟨Nat.le_of_ble_eq_true rfl, Nat.le_of_ble_eq_true rfl⟩ (fun H locs hP hD hS => ?_)
          refine z_top (v2 := .int (z (25 + 16 * j + k))) (congrArg Value.int (if_pos rfl)) ?_
          refine lv_i2l hx hb dX6_mixMember_40 rfl ?_
          refine z_callV0 (rest := []) S (c_X6_mix ((z (25 + 16 * j + k)).toInt64)) qm_X6_188 v_X6_mix ⟨Nat.le_of_ble_eq_true rfl, Nat.le_of_ble_eq_true rfl⟩ rfl rfl hN hK hP hD hS hA (0) (mo_0) rfl rfl hl.1 rfl (Nat.le_of_ble_eq_true rfl) dX6_mixMember_41 ⟨Nat.le_of_ble_eq_true rfl, Nat.le_of_ble_eq_true rfl⟩ (fun H locs hP hD hS => ?_)
          refine lv_aload_n hx hb dX6_mixMember_44 rfl (lv_at hl 0 rfl) ?_
          refine lv_aload_n hx hb dX6_mixMember_45 rfl (lv_at hl 0 rfl) ?_
          refine lv_iload_n hx hb dX6_mixMember_46 rfl (lv_at hl 1 rfl) ?_
          refine lv_iload_n hx hb dX6_mixMember_47 rfl (lv_at hl 2 rfl) ?_
          refine lv_iconst (v := 1) hx hb dX6_mixMember_48 (by decide) ?_
          refine z_callV1 (rest := [.ref (q 0)]) S (c_X6_skillNow j k (show j < 8 by omega) (show k < 5 by omega) 1) qm_X6_150 v_X6_skillNow ⟨Nat.le_of_ble_eq_true rfl, Nat.le_of_ble_eq_true rfl⟩ rfl rfl hN hK hP hD hS hA (0) (mo_0) rfl rfl hl.1 rfl (Nat.le_of_ble_eq_true rfl) dX6_mixMember_49 ⟨Nat.le_of_ble_eq_true rfl, Nat.le_of_ble_eq_true rfl⟩ (fun H locs hP hD hS => ?_)
          refine z_top (v2 := .int (ripeP (z (25 + 16 * j + k)))) (congrArg Value.int (if_neg (by decide))) ?_
          refine lv_i2l hx hb dX6_mixMember_52 rfl ?_
          refine z_callV0 (rest := []) S (c_X6_mix ((ripeP (z (25 + 16 * j + k))).toInt64)) qm_X6_188 v_X6_mix ⟨Nat.le_of_ble_eq_true rfl, Nat.le_of_ble_eq_true rfl⟩ rfl rfl hN hK hP hD hS hA (0) (mo_0) rfl rfl hl.1 rfl (Nat.le_of_ble_eq_true rfl) dX6_mixMember_53 ⟨Nat.le_of_ble_eq_true rfl, Nat.le_of_ble_eq_true rfl⟩ (fun H locs hP hD hS => ?_)
          refine lv_iinc (v := nI (k + 1)) (lv' := [(2, .int (nI (k + 1))), (0, .ref (q 0)), (1, .int (nI j))]) hx hb dX6_mixMember_56 hl (k := 2) rfl (nI_1 _) (by decide) rfl (fun ls hl => ?_)
          refine lv_goto (tgt := 27) hx hb dX6_mixMember_59 (by decide) ?_
          have hP := va_P_eq (w2 := moW cI q z hi tx pa ke mr (dgP z j (dgN (fun w => prpP z j (nI w)) hs 12) (k + 1)) wr) (rfl) hP
          have hD := va_D_eq (w2 := moW cI q z hi tx pa ke mr (dgP z j (dgN (fun w => prpP z j (nI w)) hs 12) (k + 1)) wr) (rfl) hD
          exact ih27 (k + 1) (by omega) _ _ hP hD hS ls (lv_sub hl [1, 2, 0] rfl)
      have hl := (congrArg (fun qv_ => lv_has ls 3 [(2, qv_), (0, .ref (q 0)), (1, .int (nI j))]) (show Value.int 0 = .int (nI 0) from congrArg Value.int (rfl))).mp hl
      have hP := va_P_eq (w2 := moW cI q z hi tx pa ke mr (dgP z j (dgN (fun w => prpP z j (nI w)) hs 12) 0) wr) (rfl) hP
      have hD := va_D_eq (w2 := moW cI q z hi tx pa ke mr (dgP z j (dgN (fun w => prpP z j (nI w)) hs 12) 0) wr) (rfl) hD
      exact K27 5 0 (by omega) _ _ hP hD hS ls (lv_sub hl [1, 2, 0] rfl)
    | succ n2 ih2 =>
      intro w h_w H locs hP hD hS ls hl
      have lw : w < 12 := by omega
      refine lv_iload_n hx hb dX6_mixMember_2 rfl (lv_at hl 2 rfl) ?_
      refine lv_bipush (v := 12) hx hb dX6_mixMember_3 (by decide) ?_
      refine lv_icmp_ge (tgt := 25) hx hb dX6_mixMember_5 (by decide) (fun c4 => absurd c4 (nI_ge (a := w) (b := 12) (by omega) (by omega))) (fun c4 => ?_)
      have c4 := z_lt c4
      refine lv_aload_n hx hb dX6_mixMember_8 rfl (lv_at hl 0 rfl) ?_
      refine lv_aload_n hx hb dX6_mixMember_9 rfl (lv_at hl 0 rfl) ?_
      refine lv_iload_n hx hb dX6_mixMember_10 rfl (lv_at hl 1 rfl) ?_
      refine lv_iload_n hx hb dX6_mixMember_11 rfl (lv_at hl 2 rfl) ?_
      refine z_callV1 (rest := [.ref (q 0)]) S (c_X6_memberNow (hB) hV j w (show j < 8 by omega) (show w < 12 by omega)) qm_X6_147 v_X6_memberNow ⟨Nat.le_of_ble_eq_true rfl, Nat.le_of_ble_eq_true rfl⟩ rfl rfl hN hK hP hD hS hA (0) (mo_0) rfl rfl hl.1 rfl (Nat.le_of_ble_eq_true rfl) dX6_mixMember_12 ⟨Nat.le_of_ble_eq_true rfl, Nat.le_of_ble_eq_true rfl⟩ (fun H locs hP hD hS => ?_)
      refine lv_i2l hx hb dX6_mixMember_15 rfl ?_
      refine z_callV0 (rest := []) S (c_X6_mix ((prpP z j (nI w)).toInt64)) qm_X6_188 v_X6_mix ⟨Nat.le_of_ble_eq_true rfl, Nat.le_of_ble_eq_true rfl⟩ rfl rfl hN hK hP hD hS hA (0) (mo_0) rfl rfl hl.1 rfl (Nat.le_of_ble_eq_true rfl) dX6_mixMember_16 ⟨Nat.le_of_ble_eq_true rfl, Nat.le_of_ble_eq_true rfl⟩ (fun H locs hP hD hS => ?_)
      refine lv_iinc (v := nI (w + 1)) (lv' := [(2, .int (nI (w + 1))), (0, .ref (q 0)), (1, .int (nI j))]) hx hb dX6_mixMember_19 hl (k := 2) rfl (nI_1 _) (by decide) rfl (fun ls hl => ?_)
      refine lv_goto (tgt := 2) hx hb dX6_mixMember_22 (by decide) ?_
      have hP := va_P_eq (w2 := moW cI q z hi tx pa ke mr (dgN (fun w => prpP z j (nI w)) hs (w + 1)) wr) (rfl) hP
      have hD := va_D_eq (w2 := moW cI q z hi tx pa ke mr (dgN (fun w => prpP z j (nI w)) hs (w + 1)) wr) (rfl) hD
      exact ih2 (w + 1) (by omega) _ _ hP hD hS ls (lv_sub hl [1, 2, 0] rfl)
  have hl := (congrArg (fun qv_ => lv_has ls 3 [(2, qv_), (0, .ref (q 0)), (1, .int (nI j))]) (show Value.int 0 = .int (nI 0) from congrArg Value.int (rfl))).mp hl
  have hP := va_P_eq (w2 := moW cI q z hi tx pa ke mr (dgN (fun w => prpP z j (nI w)) hs 0) wr) (rfl) hP
  have hD := va_D_eq (w2 := moW cI q z hi tx pa ke mr (dgN (fun w => prpP z j (nI w)) hs 0) wr) (rfl) hD
  exact K2 12 0 (by omega) _ _ hP hD hS ls (lv_sub hl [1, 2, 0] rfl)
set_option maxHeartbeats 4000000 in
set_option maxRecDepth 100000 in
theorem c_X6_digest_a {n : Nat} (hn : n ≤ 8) (hz : z 5 = nI n) (hB : hBool z) (hV : hVote z) (h12 : oneP (z 12) 8 = cntB z 1 n) (h13 : oneP (z 13) 8 = cntB z 2 n) (hz2 : z 10 = -1) {u nb : Nat} (hu : u ≤ 6) (hm : mr 0 = nI u) (hnb : nb ≤ 60) (h1 : mr 1 = nI nb) (hvo : vf_n64 (vomP z n)) : zM l D (zT cI cC cM cB cJ) yX6_digest cX6_digest 2 (some .long) ({ frames := 6, cells := 0, slots := 0, locals := 140 } : Room) [.ref (q 0)] (moW cI q z hi tx pa ke mr hs wr) (moW cI q z hi tx pa (keI ke z n) (upd mr 2 0) (dgT z (mA z) (mB z n) (mC z n) n u (vomP z n).toInt64 tx nb) wr) (some (.long (dgT z (mA z) (mB z n) (mC z n) n u (vomP z n).toInt64 tx nb))) 0 0 := by
  refine z_enter (by decide) (Nat.le_of_ble_eq_true rfl) ?_
  intro p e s m below meth c A S hr hlocks hnm hN hA hK hP hD hS ls hl
  obtain ⟨hx, hb, hml, hown, hts⟩ := id S
  have hl : lv_has ls 2 [(0, .ref (q 0))] := hl
  have hP : va_P D vwCl (moW cI q z hi tx pa ke mr hs wr) s.heap := hP
  have hD : va_D A (moW cI q z hi tx pa ke mr hs wr) := hD
  refine lv_aload_n hx hb dX6_digest_0 rfl (lv_at hl 0 rfl) ?_
  refine lv_iconst (v := 0) hx hb dX6_digest_1 (by decide) ?_
  refine z_put (v := .int 0) (ty := .int) (ws2 := moW cI q z hi tx pa ke (upd mr 2 0) hs wr) hx hb hts inTX6 tyX6 tyX6_ok nmX6 hown hK hP hD hS (0) (mo_0) rfl 5 (by decide) (hts _ qf_X6_25) (fun _ h9 => h9) rfl (by decide +kernel) (rfl) (rfl) (Nat.le_of_ble_eq_true rfl) dX6_digest_2 (mo_w0 _ mfl_s2) (fun H locs hP hD hS => ?_)
  refine lv_aload_n hx hb dX6_digest_5 rfl (lv_at hl 0 rfl) ?_
  refine lv_ldc2 (v := (2539)) hx hb hown (hts _ ql_X6_192) dX6_digest_6 ?_
  refine z_put (v := .long (2539)) (ty := .long) (ws2 := moW cI q z hi tx pa ke (upd mr 2 0) (2539) wr) hx hb hts inTX6 tyX6 tyX6_ok nmX6 hown hK hP hD hS (0) (mo_0) rfl 11 (by decide) (hts _ qf_X6_184) (fun _ h9 => h9) rfl (by decide +kernel) (rfl) (rfl) (Nat.le_of_ble_eq_true rfl) dX6_digest_9 (rfl) (fun H locs hP hD hS => ?_)
  refine lv_iconst (v := 0) hx hb dX6_digest_12 (by decide) ?_
  refine lv_istore_n (lv' := [(1, .int 0), (0, .ref (q 0))]) hx hb dX6_digest_13 rfl hl (by decide) rfl (fun ls hl => ?_)
  have K14 : ∀ (n14 i : Nat), i + n14 = 14 → ∀ (H : Heap) (locs : List Loc), va_P D vwCl (moW cI q z hi tx pa ke (upd mr 2 0) (dgN (fun i => numP z n u (nI i)) 2539 i) wr) H → va_D A (moW cI q z hi tx pa ke (upd mr 2 0) (dgN (fun i => numP z n u (nI i)) 2539 i) wr) → va_S A s.heap H locs → ∀ ls : Array Slot, lv_has ls 2 [(0, .ref (q 0)), (1, .int (nI i))] → W p l e ({ frames := 6, cells := 0, slots := 0, locals := 140 } : Room) s m ([.ref (q 0)] : List Value).toArray below meth c H locs 0 0 (MQ below (zQ D (zT cI cC cM cB cJ) (moW cI q z hi tx pa (keI ke z n) (upd mr 2 0) (dgT z (mA z) (mB z n) (mC z n) n u (vomP z n).toInt64 tx nb) wr) (some (.long (dgT z (mA z) (mB z n) (mC z n) n u (vomP z n).toInt64 tx nb))) A) ([.ref (q 0)] : List Value).toArray s 0 0 A) (F0 m 14 ls []) := by
    intro n14
    induction n14 with
    | zero =>
      intro i h_i H locs hP hD hS ls hl
      have ei : 14 = i := by omega
      subst ei
      refine lv_iload_n hx hb dX6_digest_14 rfl (lv_at hl 1 rfl) ?_
      refine lv_bipush (v := 14) hx hb dX6_digest_15 (by decide) ?_
      refine lv_icmp_ge (tgt := 36) hx hb dX6_digest_17 (by decide) (fun c1 => ?_) (fun c1 => absurd (nI_le (a := 14) (b := 14) (by omega) (by omega)) c1)
      have c1 := z_nlt c1
      refine lv_iconst (v := 0) hx hb dX6_digest_36 (by decide) ?_
      refine lv_istore_n (lv' := [(1, .int 0), (0, .ref (q 0))]) hx hb dX6_digest_37 rfl hl (by decide) rfl (fun ls hl => ?_)
      have K38 : ∀ (n38 i : Nat), i + n38 = 5 → ∀ (H : Heap) (locs : List Loc), va_P D vwCl (moW cI q z hi tx pa ke (upd mr 2 0) (dgN z (dgN (fun i => numP z n u (nI i)) 2539 14) i) wr) H → va_D A (moW cI q z hi tx pa ke (upd mr 2 0) (dgN z (dgN (fun i => numP z n u (nI i)) 2539 14) i) wr) → va_S A s.heap H locs → ∀ ls : Array Slot, lv_has ls 2 [(0, .ref (q 0)), (1, .int (nI i))] → W p l e ({ frames := 6, cells := 0, slots := 0, locals := 140 } : Room) s m ([.ref (q 0)] : List Value).toArray below meth c H locs 0 0 (MQ below (zQ D (zT cI cC cM cB cJ) (moW cI q z hi tx pa (keI ke z n) (upd mr 2 0) (dgT z (mA z) (mB z n) (mC z n) n u (vomP z n).toInt64 tx nb) wr) (some (.long (dgT z (mA z) (mB z n) (mC z n) n u (vomP z n).toInt64 tx nb))) A) ([.ref (q 0)] : List Value).toArray s 0 0 A) (F0 m 38 ls []) := by
        intro n38
        induction n38 with
        | zero =>
          intro i h_i H locs hP hD hS ls hl
          have ei : 5 = i := by omega
          subst ei
          refine lv_iload_n hx hb dX6_digest_38 rfl (lv_at hl 1 rfl) ?_
          refine lv_iconst (v := 5) hx hb dX6_digest_39 (by decide) ?_
          refine lv_icmp_ge (tgt := 60) hx hb dX6_digest_40 (by decide) (fun c2 => ?_) (fun c2 => absurd (nI_le (a := 5) (b := 5) (by omega) (by omega)) c2)
          have c2 := z_nlt c2
          refine lv_iconst (v := 0) hx hb dX6_digest_60 (by decide) ?_
          refine lv_istore_n (lv' := [(1, .int 0), (0, .ref (q 0))]) hx hb dX6_digest_61 rfl hl (by decide) rfl (fun ls hl => ?_)
          have K62 : ∀ (n62 i : Nat), i + n62 = n → ∀ (H : Heap) (locs : List Loc), va_P D vwCl (moW cI q z hi tx pa (keI ke z i) (upd mr 2 0) (dgM z (mA z) (mB z n) (mC z n) (dgN z (dgN (fun i => numP z n u (nI i)) 2539 14) 5) i) wr) H → va_D A (moW cI q z hi tx pa (keI ke z i) (upd mr 2 0) (dgM z (mA z) (mB z n) (mC z n) (dgN z (dgN (fun i => numP z n u (nI i)) 2539 14) 5) i) wr) → va_S A s.heap H locs → ∀ ls : Array Slot, lv_has ls 2 [(0, .ref (q 0)), (1, .int (nI i))] → W p l e ({ frames := 6, cells := 0, slots := 0, locals := 140 } : Room) s m ([.ref (q 0)] : List Value).toArray below meth c H locs 0 0 (MQ below (zQ D (zT cI cC cM cB cJ) (moW cI q z hi tx pa (keI ke z n) (upd mr 2 0) (dgT z (mA z) (mB z n) (mC z n) n u (vomP z n).toInt64 tx nb) wr) (some (.long (dgT z (mA z) (mB z n) (mC z n) n u (vomP z n).toInt64 tx nb))) A) ([.ref (q 0)] : List Value).toArray s 0 0 A) (F0 m 62 ls []) := by
            intro n62
            induction n62 with
            | zero =>
              intro i h_i H locs hP hD hS ls hl
              have ei : n = i := by omega
              subst ei
              refine lv_iload_n hx hb dX6_digest_62 rfl (lv_at hl 1 rfl) ?_
              refine lv_aload_n hx hb dX6_digest_63 rfl (lv_at hl 0 rfl) ?_
              refine va_get (v := .ref (q 1)) hx hb hts inTX6 hown hK hP (0) (mo_0) rfl 0 (by decide) (hts _ qf_X6_7) (fun _ h9 => h9) (rfl) dX6_digest_64 ?_
              refine lv_iconst (v := 5) hx hb dX6_digest_67 (by decide) ?_
              refine va_iald hx hb hK hP (1) 0 (mo_1) rfl (vp_in_nI (show 5 < 142 by decide) (by omega)) dX6_digest_68 ?_
              refine z_top (v2 := .int (nI n)) (congrArg Value.int (((congrArg (zfn z) (z_cl (k := 5) rfl)).trans (zfn_at (by omega))).trans (hz))) ?_
              refine lv_icmp_ge (tgt := 83) hx hb dX6_digest_69 (by decide) (fun c3 => ?_) (fun c3 => absurd (nI_le (a := n) (b := n) (by omega) (by omega)) c3)
              have c3 := z_nlt c3
              refine lv_iconst (v := 0) hx hb dX6_digest_83 (by decide) ?_
              refine lv_istore_n (lv' := [(1, .int 0), (0, .ref (q 0))]) hx hb dX6_digest_84 rfl hl (by decide) rfl (fun ls hl => ?_)
              have K85 : ∀ (n85 i : Nat), i + n85 = 5 → ∀ (H : Heap) (locs : List Loc), va_P D vwCl (moW cI q z hi tx pa (keI ke z n) (upd mr 2 0) (dgN (fun i => mpP z i n) (dgM z (mA z) (mB z n) (mC z n) (dgN z (dgN (fun i => numP z n u (nI i)) 2539 14) 5) n) i) wr) H → va_D A (moW cI q z hi tx pa (keI ke z n) (upd mr 2 0) (dgN (fun i => mpP z i n) (dgM z (mA z) (mB z n) (mC z n) (dgN z (dgN (fun i => numP z n u (nI i)) 2539 14) 5) n) i) wr) → va_S A s.heap H locs → ∀ ls : Array Slot, lv_has ls 2 [(0, .ref (q 0)), (1, .int (nI i))] → W p l e ({ frames := 6, cells := 0, slots := 0, locals := 140 } : Room) s m ([.ref (q 0)] : List Value).toArray below meth c H locs 0 0 (MQ below (zQ D (zT cI cC cM cB cJ) (moW cI q z hi tx pa (keI ke z n) (upd mr 2 0) (dgT z (mA z) (mB z n) (mC z n) n u (vomP z n).toInt64 tx nb) wr) (some (.long (dgT z (mA z) (mB z n) (mC z n) n u (vomP z n).toInt64 tx nb))) A) ([.ref (q 0)] : List Value).toArray s 0 0 A) (F0 m 85 ls []) := by
                intro n85
                induction n85 with
                | zero =>
                  intro i h_i H locs hP hD hS ls hl
                  have ei : 5 = i := by omega
                  subst ei
                  refine lv_iload_n hx hb dX6_digest_85 rfl (lv_at hl 1 rfl) ?_
                  refine lv_iconst (v := 5) hx hb dX6_digest_86 (by decide) ?_
                  refine lv_icmp_ge (tgt := 106) hx hb dX6_digest_87 (by decide) (fun c4 => ?_) (fun c4 => absurd (nI_le (a := 5) (b := 5) (by omega) (by omega)) c4)
                  have c4 := z_nlt c4
                  refine lv_aload_n hx hb dX6_digest_106 rfl (lv_at hl 0 rfl) ?_
                  refine lv_aload_n hx hb dX6_digest_107 rfl (lv_at hl 0 rfl) ?_
                  refine z_callV1 (rest := [.ref (q 0)]) S (c_X6_needed_a (n := n) (hz2)) qm_X6_172 v_X6_needed ⟨Nat.le_of_ble_eq_true rfl, Nat.le_of_ble_eq_true rfl⟩ rfl rfl hN hK hP hD hS hA (0) (mo_0) rfl rfl hl.1 rfl (Nat.le_of_ble_eq_true rfl) dX6_digest_108 ⟨Nat.le_of_ble_eq_true rfl, Nat.le_of_ble_eq_true rfl⟩ (fun H locs hP hD hS => ?_)
                  refine lv_i2l hx hb dX6_digest_111 rfl ?_
                  refine z_callV0 (rest := []) S (c_X6_mix ((misP z n).toInt64)) qm_X6_188 v_X6_mix ⟨Nat.le_of_ble_eq_true rfl, Nat.le_of_ble_eq_true rfl⟩ rfl rfl hN hK hP hD hS hA (0) (mo_0) rfl rfl hl.1 rfl (Nat.le_of_ble_eq_true rfl) dX6_digest_112 ⟨Nat.le_of_ble_eq_true rfl, Nat.le_of_ble_eq_true rfl⟩ (fun H locs hP hD hS => ?_)
                  refine lv_aload_n hx hb dX6_digest_115 rfl (lv_at hl 0 rfl) ?_
                  refine lv_aload_n hx hb dX6_digest_116 rfl (lv_at hl 0 rfl) ?_
                  refine z_callV1 (rest := [.ref (q 0)]) S (c_X6_meanWorth (n := n) (show n ≤ 8 by omega) (hz)) qm_X6_178 v_X6_meanWorth ⟨Nat.le_of_ble_eq_true rfl, Nat.le_of_ble_eq_true rfl⟩ rfl rfl hN hK hP hD hS hA (0) (mo_0) rfl rfl hl.1 rfl (Nat.le_of_ble_eq_true rfl) dX6_digest_117 ⟨Nat.le_of_ble_eq_true rfl, Nat.le_of_ble_eq_true rfl⟩ (fun H locs hP hD hS => ?_)
                  refine z_callS1 (rest := [.ref (q 0)]) S (c_Jxe99ae_doubleToLongBits_ccdee (vomP z n) hvo) qm_X6_198 t_Jxe99ae_doubleToLongBits_ccdee ⟨Nat.le_of_ble_eq_true rfl, Nat.le_of_ble_eq_true rfl⟩ rfl rfl hN hK hP hD hS hA rfl hl.1 rfl (Nat.le_of_ble_eq_true rfl) dX6_digest_120 ⟨Nat.le_of_ble_eq_true rfl, Nat.le_of_ble_eq_true rfl⟩ (fun H locs hP hD hS => ?_)
                  refine z_callV0 (rest := []) S (c_X6_mix ((vomP z n).toInt64)) qm_X6_188 v_X6_mix ⟨Nat.le_of_ble_eq_true rfl, Nat.le_of_ble_eq_true rfl⟩ rfl rfl hN hK hP hD hS hA (0) (mo_0) rfl rfl hl.1 rfl (Nat.le_of_ble_eq_true rfl) dX6_digest_123 ⟨Nat.le_of_ble_eq_true rfl, Nat.le_of_ble_eq_true rfl⟩ (fun H locs hP hD hS => ?_)
                  refine lv_aload_n hx hb dX6_digest_126 rfl (lv_at hl 0 rfl) ?_
                  refine lv_aload_n hx hb dX6_digest_127 rfl (lv_at hl 0 rfl) ?_
                  refine va_get (v := .int (nI nb)) hx hb hts inTX6 hown hK hP (0) (mo_0) rfl 3 (by decide) (hts _ qf_X6_120) (fun _ h9 => h9) (congrArg (fun x => some (Value.int x)) ((upd_ne (by omega)).trans (h1))) dX6_digest_128 ?_
                  refine lv_i2l hx hb dX6_digest_131 rfl ?_
                  refine z_callV0 (rest := []) S (c_X6_mix ((nI nb).toInt64)) qm_X6_188 v_X6_mix ⟨Nat.le_of_ble_eq_true rfl, Nat.le_of_ble_eq_true rfl⟩ rfl rfl hN hK hP hD hS hA (0) (mo_0) rfl rfl hl.1 rfl (Nat.le_of_ble_eq_true rfl) dX6_digest_132 ⟨Nat.le_of_ble_eq_true rfl, Nat.le_of_ble_eq_true rfl⟩ (fun H locs hP hD hS => ?_)
                  refine lv_iconst (v := 0) hx hb dX6_digest_135 (by decide) ?_
                  refine lv_istore_n (lv' := [(1, .int 0), (0, .ref (q 0))]) hx hb dX6_digest_136 rfl hl (by decide) rfl (fun ls hl => ?_)
                  have K137 : ∀ (n137 i : Nat), i + n137 = nb → ∀ (H : Heap) (locs : List Loc), va_P D vwCl (moW cI q z hi tx pa (keI ke z n) (upd mr 2 0) (dgN tx (mx (mx (mx (dgS z (mA z) (mB z n) (mC z n) n u) (misP z n).toInt64) (vomP z n).toInt64) (nI nb).toInt64) i) wr) H → va_D A (moW cI q z hi tx pa (keI ke z n) (upd mr 2 0) (dgN tx (mx (mx (mx (dgS z (mA z) (mB z n) (mC z n) n u) (misP z n).toInt64) (vomP z n).toInt64) (nI nb).toInt64) i) wr) → va_S A s.heap H locs → ∀ ls : Array Slot, lv_has ls 2 [(0, .ref (q 0)), (1, .int (nI i))] → W p l e ({ frames := 6, cells := 0, slots := 0, locals := 140 } : Room) s m ([.ref (q 0)] : List Value).toArray below meth c H locs 0 0 (MQ below (zQ D (zT cI cC cM cB cJ) (moW cI q z hi tx pa (keI ke z n) (upd mr 2 0) (dgT z (mA z) (mB z n) (mC z n) n u (vomP z n).toInt64 tx nb) wr) (some (.long (dgT z (mA z) (mB z n) (mC z n) n u (vomP z n).toInt64 tx nb))) A) ([.ref (q 0)] : List Value).toArray s 0 0 A) (F0 m 137 ls []) := by
                    intro n137
                    induction n137 with
                    | zero =>
                      intro i h_i H locs hP hD hS ls hl
                      have ei : nb = i := by omega
                      subst ei
                      refine lv_iload_n hx hb dX6_digest_137 rfl (lv_at hl 1 rfl) ?_
                      refine lv_aload_n hx hb dX6_digest_138 rfl (lv_at hl 0 rfl) ?_
                      refine va_get (v := .int (nI nb)) hx hb hts inTX6 hown hK hP (0) (mo_0) rfl 3 (by decide) (hts _ qf_X6_120) (fun _ h9 => h9) (congrArg (fun x => some (Value.int x)) ((upd_ne (by omega)).trans (h1))) dX6_digest_139 ?_
                      refine lv_icmp_ge (tgt := 162) hx hb dX6_digest_142 (by decide) (fun c5 => ?_) (fun c5 => absurd (nI_le (a := nb) (b := nb) (by omega) (by omega)) c5)
                      have c5 := z_nlt c5
                      refine lv_aload_n hx hb dX6_digest_162 rfl (lv_at hl 0 rfl) ?_
                      refine va_get (v := .long (dgN tx (mx (mx (mx (dgS z (mA z) (mB z n) (mC z n) n u) (misP z n).toInt64) (vomP z n).toInt64) (nI nb).toInt64) nb)) hx hb hts inTX6 hown hK hP (0) (mo_0) rfl 11 (by decide) (hts _ qf_X6_184) (fun _ h9 => h9) (rfl) dX6_digest_163 ?_
                      exact z_lret hx hb hr hlocks hP hD hK hS (rfl) (rfl) dX6_digest_166
                    | succ n137 ih137 =>
                      intro i h_i H locs hP hD hS ls hl
                      have li : i < nb := by omega
                      refine lv_iload_n hx hb dX6_digest_137 rfl (lv_at hl 1 rfl) ?_
                      refine lv_aload_n hx hb dX6_digest_138 rfl (lv_at hl 0 rfl) ?_
                      refine va_get (v := .int (nI nb)) hx hb hts inTX6 hown hK hP (0) (mo_0) rfl 3 (by decide) (hts _ qf_X6_120) (fun _ h9 => h9) (congrArg (fun x => some (Value.int x)) ((upd_ne (by omega)).trans (h1))) dX6_digest_139 ?_
                      refine lv_icmp_ge (tgt := 162) hx hb dX6_digest_142 (by decide) (fun c6 => absurd c6 (nI_ge (a := i) (b := nb) (by omega) (by omega))) (fun c6 => ?_)
                      have c6 := z_lt c6
                      refine lv_aload_n hx hb dX6_digest_145 rfl (lv_at hl 0 rfl) ?_
                      refine lv_aload_n hx hb dX6_digest_146 rfl (lv_at hl 0 rfl) ?_
                      refine va_get (v := .ref (q 3)) hx hb hts inTX6 hown hK hP (0) (mo_0) rfl 4 (by decide) (hts _ qf_X6_16) (fun _ h9 => h9) (rfl) dX6_digest_147 ?_
                      refine lv_iload_n hx hb dX6_digest_150 rfl (lv_at hl 1 rfl) ?_
                      refine va_iald hx hb hK hP (3) 0 (mo_3) rfl (vp_in_nI (show i < 60 by omega) (by omega)) dX6_digest_151 ?_
                      refine z_top (v2 := .int (tx i)) (congrArg Value.int (congrArg tx (z_cl (k := i) rfl))) ?_
                      refine lv_i2l hx hb dX6_digest_152 rfl ?_
                      refine z_callV0 (rest := []) S (c_X6_mix ((tx i).toInt64)) qm_X6_188 v_X6_mix ⟨Nat.le_of_ble_eq_true rfl, Nat.le_of_ble_eq_true rfl⟩ rfl rfl hN hK hP hD hS hA (0) (mo_0) rfl rfl hl.1 rfl (Nat.le_of_ble_eq_true rfl) dX6_digest_153 ⟨Nat.le_of_ble_eq_true rfl, Nat.le_of_ble_eq_true rfl⟩ (fun H locs hP hD hS => ?_)
                      refine lv_iinc (v := nI (i + 1)) (lv' := [(1, .int (nI (i + 1))), (0, .ref (q 0))]) hx hb dX6_digest_156 hl (k := 1) rfl (nI_1 _) (by decide) rfl (fun ls hl => ?_)
                      refine lv_goto (tgt := 137) hx hb dX6_digest_159 (by decide) ?_
                      have hP := va_P_eq (w2 := moW cI q z hi tx pa (keI ke z n) (upd mr 2 0) (dgN tx (mx (mx (mx (dgS z (mA z) (mB z n) (mC z n) n u) (misP z n).toInt64) (vomP z n).toInt64) (nI nb).toInt64) (i + 1)) wr) (rfl) hP
                      have hD := va_D_eq (w2 := moW cI q z hi tx pa (keI ke z n) (upd mr 2 0) (dgN tx (mx (mx (mx (dgS z (mA z) (mB z n) (mC z n) n u) (misP z n).toInt64) (vomP z n).toInt64) (nI nb).toInt64) (i + 1)) wr) (rfl) hD
                      exact ih137 (i + 1) (by omega) _ _ hP hD hS ls (lv_sub hl [1, 0] rfl)
                  have hl := (congrArg (fun qv_ => lv_has ls 2 [(1, qv_), (0, .ref (q 0))]) (show Value.int 0 = .int (nI 0) from congrArg Value.int (rfl))).mp hl
                  have hP := va_P_eq (w2 := moW cI q z hi tx pa (keI ke z n) (upd mr 2 0) (dgN tx (mx (mx (mx (dgS z (mA z) (mB z n) (mC z n) n u) (misP z n).toInt64) (vomP z n).toInt64) (nI nb).toInt64) 0) wr) (rfl) hP
                  have hD := va_D_eq (w2 := moW cI q z hi tx pa (keI ke z n) (upd mr 2 0) (dgN tx (mx (mx (mx (dgS z (mA z) (mB z n) (mC z n) n u) (misP z n).toInt64) (vomP z n).toInt64) (nI nb).toInt64) 0) wr) (rfl) hD
                  exact K137 nb 0 (by omega) _ _ hP hD hS ls (lv_sub hl [1, 0] rfl)
                | succ n85 ih85 =>
                  intro i h_i H locs hP hD hS ls hl
                  have li : i < 5 := by omega
                  refine lv_iload_n hx hb dX6_digest_85 rfl (lv_at hl 1 rfl) ?_
                  refine lv_iconst (v := 5) hx hb dX6_digest_86 (by decide) ?_
                  refine lv_icmp_ge (tgt := 106) hx hb dX6_digest_87 (by decide) (fun c7 => absurd c7 (nI_ge (a := i) (b := 5) (by omega) (by omega))) (fun c7 => ?_)
                  have c7 := z_lt c7
                  refine lv_aload_n hx hb dX6_digest_90 rfl (lv_at hl 0 rfl) ?_
                  refine lv_aload_n hx hb dX6_digest_91 rfl (lv_at hl 0 rfl) ?_
                  refine lv_iload_n hx hb dX6_digest_92 rfl (lv_at hl 1 rfl) ?_
                  refine z_callV1 (rest := [.ref (q 0)]) S (c_X6_ripestNow (n := n) (show n ≤ 8 by omega) (hz) (hB) i (show i < 5 by omega)) qm_X6_175 v_X6_ripestNow ⟨Nat.le_of_ble_eq_true rfl, Nat.le_of_ble_eq_true rfl⟩ rfl rfl hN hK hP hD hS hA (0) (mo_0) rfl rfl hl.1 rfl (Nat.le_of_ble_eq_true rfl) dX6_digest_93 ⟨Nat.le_of_ble_eq_true rfl, Nat.le_of_ble_eq_true rfl⟩ (fun H locs hP hD hS => ?_)
                  refine lv_i2l hx hb dX6_digest_96 rfl ?_
                  refine z_callV0 (rest := []) S (c_X6_mix ((mpP z i n).toInt64)) qm_X6_188 v_X6_mix ⟨Nat.le_of_ble_eq_true rfl, Nat.le_of_ble_eq_true rfl⟩ rfl rfl hN hK hP hD hS hA (0) (mo_0) rfl rfl hl.1 rfl (Nat.le_of_ble_eq_true rfl) dX6_digest_97 ⟨Nat.le_of_ble_eq_true rfl, Nat.le_of_ble_eq_true rfl⟩ (fun H locs hP hD hS => ?_)
                  refine lv_iinc (v := nI (i + 1)) (lv' := [(1, .int (nI (i + 1))), (0, .ref (q 0))]) hx hb dX6_digest_100 hl (k := 1) rfl (nI_1 _) (by decide) rfl (fun ls hl => ?_)
                  refine lv_goto (tgt := 85) hx hb dX6_digest_103 (by decide) ?_
                  have hP := va_P_eq (w2 := moW cI q z hi tx pa (keI ke z n) (upd mr 2 0) (dgN (fun i => mpP z i n) (dgM z (mA z) (mB z n) (mC z n) (dgN z (dgN (fun i => numP z n u (nI i)) 2539 14) 5) n) (i + 1)) wr) (rfl) hP
                  have hD := va_D_eq (w2 := moW cI q z hi tx pa (keI ke z n) (upd mr 2 0) (dgN (fun i => mpP z i n) (dgM z (mA z) (mB z n) (mC z n) (dgN z (dgN (fun i => numP z n u (nI i)) 2539 14) 5) n) (i + 1)) wr) (rfl) hD
                  exact ih85 (i + 1) (by omega) _ _ hP hD hS ls (lv_sub hl [1, 0] rfl)
              have hl := (congrArg (fun qv_ => lv_has ls 2 [(1, qv_), (0, .ref (q 0))]) (show Value.int 0 = .int (nI 0) from congrArg Value.int (rfl))).mp hl
              have hP := va_P_eq (w2 := moW cI q z hi tx pa (keI ke z n) (upd mr 2 0) (dgN (fun i => mpP z i n) (dgM z (mA z) (mB z n) (mC z n) (dgN z (dgN (fun i => numP z n u (nI i)) 2539 14) 5) n) 0) wr) (rfl) hP
              have hD := va_D_eq (w2 := moW cI q z hi tx pa (keI ke z n) (upd mr 2 0) (dgN (fun i => mpP z i n) (dgM z (mA z) (mB z n) (mC z n) (dgN z (dgN (fun i => numP z n u (nI i)) 2539 14) 5) n) 0) wr) (rfl) hD
              exact K85 5 0 (by omega) _ _ hP hD hS ls (lv_sub hl [1, 0] rfl)
            | succ n62 ih62 =>
              intro i h_i H locs hP hD hS ls hl
              have li : i < n := by omega
              refine lv_iload_n hx hb dX6_digest_62 rfl (lv_at hl 1 rfl) ?_
              refine lv_aload_n hx hb dX6_digest_63 rfl (lv_at hl 0 rfl) ?_
              refine va_get (v := .ref (q 1)) hx hb hts inTX6 hown hK hP (0) (mo_0) rfl 0 (by decide) (hts _ qf_X6_7) (fun _ h9 => h9) (rfl) dX6_digest_64 ?_
              refine lv_iconst (v := 5) hx hb dX6_digest_67 (by decide) ?_
              refine va_iald hx hb hK hP (1) 0 (mo_1) rfl (vp_in_nI (show 5 < 142 by decide) (by omega)) dX6_digest_68 ?_
              refine z_top (v2 := .int (nI n)) (congrArg Value.int (((congrArg (zfn z) (z_cl (k := 5) rfl)).trans (zfn_at (by omega))).trans (hz))) ?_
              refine lv_icmp_ge (tgt := 83) hx hb dX6_digest_69 (by decide) (fun c8 => absurd c8 (nI_ge (a := i) (b := n) (by omega) (by omega))) (fun c8 => ?_)
              have c8 := z_lt c8
              refine lv_aload_n hx hb dX6_digest_72 rfl (lv_at hl 0 rfl) ?_
              refine lv_iload_n hx hb dX6_digest_73 rfl (lv_at hl 1 rfl) ?_
              refine z_callV0 (rest := []) S (c_X6_mixMember (n := n) (show n ≤ 8 by omega) (hz) (hB) hV i (show i < 8 by omega)) qm_X6_194 v_X6_mixMember ⟨Nat.le_of_ble_eq_true rfl, Nat.le_of_ble_eq_true rfl⟩ rfl rfl hN hK hP hD hS hA (0) (mo_0) rfl rfl hl.1 rfl (Nat.le_of_ble_eq_true rfl) dX6_digest_74 ⟨Nat.le_of_ble_eq_true rfl, Nat.le_of_ble_eq_true rfl⟩ (fun H locs hP hD hS => ?_)
              refine lv_iinc (v := nI (i + 1)) (lv' := [(1, .int (nI (i + 1))), (0, .ref (q 0))]) hx hb dX6_digest_77 hl (k := 1) rfl (nI_1 _) (by decide) rfl (fun ls hl => ?_)
              refine lv_goto (tgt := 62) hx hb dX6_digest_80 (by decide) ?_
              have hP := va_P_eq (w2 := moW cI q z hi tx pa (keI ke z (i + 1)) (upd mr 2 0) (dgM z (mA z) (mB z n) (mC z n) (dgN z (dgN (fun i => numP z n u (nI i)) 2539 14) 5) (i + 1)) wr) (rfl) hP
              have hD := va_D_eq (w2 := moW cI q z hi tx pa (keI ke z (i + 1)) (upd mr 2 0) (dgM z (mA z) (mB z n) (mC z n) (dgN z (dgN (fun i => numP z n u (nI i)) 2539 14) 5) (i + 1)) wr) (rfl) hD
              exact ih62 (i + 1) (by omega) _ _ hP hD hS ls (lv_sub hl [1, 0] rfl)
          have hl := (congrArg (fun qv_ => lv_has ls 2 [(1, qv_), (0, .ref (q 0))]) (show Value.int 0 = .int (nI 0) from congrArg Value.int (rfl))).mp hl
          have hP := va_P_eq (w2 := moW cI q z hi tx pa (keI ke z 0) (upd mr 2 0) (dgM z (mA z) (mB z n) (mC z n) (dgN z (dgN (fun i => numP z n u (nI i)) 2539 14) 5) 0) wr) (rfl) hP
          have hD := va_D_eq (w2 := moW cI q z hi tx pa (keI ke z 0) (upd mr 2 0) (dgM z (mA z) (mB z n) (mC z n) (dgN z (dgN (fun i => numP z n u (nI i)) 2539 14) 5) 0) wr) (rfl) hD
          exact K62 n 0 (by omega) _ _ hP hD hS ls (lv_sub hl [1, 0] rfl)
        | succ n38 ih38 =>
          intro i h_i H locs hP hD hS ls hl
          have li : i < 5 := by omega
          refine lv_iload_n hx hb dX6_digest_38 rfl (lv_at hl 1 rfl) ?_
          refine lv_iconst (v := 5) hx hb dX6_digest_39 (by decide) ?_
          refine lv_icmp_ge (tgt := 60) hx hb dX6_digest_40 (by decide) (fun c9 => absurd c9 (nI_ge (a := i) (b := 5) (by omega) (by omega))) (fun c9 => ?_)
          have c9 := z_lt c9
          refine lv_aload_n hx hb dX6_digest_43 rfl (lv_at hl 0 rfl) ?_
          refine lv_aload_n hx hb dX6_digest_44 rfl (lv_at hl 0 rfl) ?_
          refine va_get (v := .ref (q 1)) hx hb hts inTX6 hown hK hP (0) (mo_0) rfl 0 (by decide) (hts _ qf_X6_7) (fun _ h9 => h9) (rfl) dX6_digest_45 ?_
          refine lv_iload_n hx hb dX6_digest_48 rfl (lv_at hl 1 rfl) ?_
          refine va_iald hx hb hK hP (1) 0 (mo_1) rfl (vp_in_nI (show i < 142 by omega) (by omega)) dX6_digest_49 ?_
          refine z_top (v2 := .int (z i)) (congrArg Value.int (((congrArg (zfn z) (z_cl (k := i) rfl)).trans (zfn_at (by omega))).trans (rfl))) ?_
          refine lv_i2l hx hb dX6_digest_50 rfl ?_
          refine z_callV0 (rest := []) S (c_X6_mix ((z i).toInt64)) qm_X6_188 v_X6_mix ⟨Nat.le_of_ble_eq_true rfl, Nat.le_of_ble_eq_true rfl⟩ rfl rfl hN hK hP hD hS hA (0) (mo_0) rfl rfl hl.1 rfl (Nat.le_of_ble_eq_true rfl) dX6_digest_51 ⟨Nat.le_of_ble_eq_true rfl, Nat.le_of_ble_eq_true rfl⟩ (fun H locs hP hD hS => ?_)
          refine lv_iinc (v := nI (i + 1)) (lv' := [(1, .int (nI (i + 1))), (0, .ref (q 0))]) hx hb dX6_digest_54 hl (k := 1) rfl (nI_1 _) (by decide) rfl (fun ls hl => ?_)
          refine lv_goto (tgt := 38) hx hb dX6_digest_57 (by decide) ?_
          have hP := va_P_eq (w2 := moW cI q z hi tx pa ke (upd mr 2 0) (dgN z (dgN (fun i => numP z n u (nI i)) 2539 14) (i + 1)) wr) (rfl) hP
          have hD := va_D_eq (w2 := moW cI q z hi tx pa ke (upd mr 2 0) (dgN z (dgN (fun i => numP z n u (nI i)) 2539 14) (i + 1)) wr) (rfl) hD
          exact ih38 (i + 1) (by omega) _ _ hP hD hS ls (lv_sub hl [1, 0] rfl)
      have hl := (congrArg (fun qv_ => lv_has ls 2 [(1, qv_), (0, .ref (q 0))]) (show Value.int 0 = .int (nI 0) from congrArg Value.int (rfl))).mp hl
      have hP := va_P_eq (w2 := moW cI q z hi tx pa ke (upd mr 2 0) (dgN z (dgN (fun i => numP z n u (nI i)) 2539 14) 0) wr) (rfl) hP
      have hD := va_D_eq (w2 := moW cI q z hi tx pa ke (upd mr 2 0) (dgN z (dgN (fun i => numP z n u (nI i)) 2539 14) 0) wr) (rfl) hD
      exact K38 5 0 (by omega) _ _ hP hD hS ls (lv_sub hl [1, 0] rfl)
    | succ n14 ih14 =>
      intro i h_i H locs hP hD hS ls hl
      have li : i < 14 := by omega
      refine lv_iload_n hx hb dX6_digest_14 rfl (lv_at hl 1 rfl) ?_
      refine lv_bipush (v := 14) hx hb dX6_digest_15 (by decide) ?_
      refine lv_icmp_ge (tgt := 36) hx hb dX6_digest_17 (by decide) (fun c10 => absurd c10 (nI_ge (a := i) (b := 14) (by omega) (by omega))) (fun c10 => ?_)
      have c10 := z_lt c10
      refine lv_aload_n hx hb dX6_digest_20 rfl (lv_at hl 0 rfl) ?_
      refine lv_aload_n hx hb dX6_digest_21 rfl (lv_at hl 0 rfl) ?_
      refine lv_iload_n hx hb dX6_digest_22 rfl (lv_at hl 1 rfl) ?_
      refine z_callV1 (rest := [.ref (q 0)]) S (c_X6_counted (n := n) (show n ≤ 8 by omega) (hz) (hB) h12 h13 (u := u) ((upd_ne (by omega)).trans (hm)) (nI i)) qm_X6_160 v_X6_counted ⟨Nat.le_of_ble_eq_true rfl, Nat.le_of_ble_eq_true rfl⟩ rfl rfl hN hK hP hD hS hA (0) (mo_0) rfl rfl hl.1 rfl (Nat.le_of_ble_eq_true rfl) dX6_digest_23 ⟨Nat.le_of_ble_eq_true rfl, Nat.le_of_ble_eq_true rfl⟩ (fun H locs hP hD hS => ?_)
      refine lv_i2l hx hb dX6_digest_26 rfl ?_
      refine z_callV0 (rest := []) S (c_X6_mix ((numP z n u (nI i)).toInt64)) qm_X6_188 v_X6_mix ⟨Nat.le_of_ble_eq_true rfl, Nat.le_of_ble_eq_true rfl⟩ rfl rfl hN hK hP hD hS hA (0) (mo_0) rfl rfl hl.1 rfl (Nat.le_of_ble_eq_true rfl) dX6_digest_27 ⟨Nat.le_of_ble_eq_true rfl, Nat.le_of_ble_eq_true rfl⟩ (fun H locs hP hD hS => ?_)
      refine lv_iinc (v := nI (i + 1)) (lv' := [(1, .int (nI (i + 1))), (0, .ref (q 0))]) hx hb dX6_digest_30 hl (k := 1) rfl (nI_1 _) (by decide) rfl (fun ls hl => ?_)
      refine lv_goto (tgt := 14) hx hb dX6_digest_33 (by decide) ?_
      have hP := va_P_eq (w2 := moW cI q z hi tx pa ke (upd mr 2 0) (dgN (fun i => numP z n u (nI i)) 2539 (i + 1)) wr) (rfl) hP
      have hD := va_D_eq (w2 := moW cI q z hi tx pa ke (upd mr 2 0) (dgN (fun i => numP z n u (nI i)) 2539 (i + 1)) wr) (rfl) hD
      exact ih14 (i + 1) (by omega) _ _ hP hD hS ls (lv_sub hl [1, 0] rfl)
  have hl := (congrArg (fun qv_ => lv_has ls 2 [(1, qv_), (0, .ref (q 0))]) (show Value.int 0 = .int (nI 0) from congrArg Value.int (rfl))).mp hl
  have hP := va_P_eq (w2 := moW cI q z hi tx pa ke (upd mr 2 0) (dgN (fun i => numP z n u (nI i)) 2539 0) wr) (rfl) hP
  have hD := va_D_eq (w2 := moW cI q z hi tx pa ke (upd mr 2 0) (dgN (fun i => numP z n u (nI i)) 2539 0) wr) (rfl) hD
  exact K14 14 0 (by omega) _ _ hP hD hS ls (lv_sub hl [1, 0] rfl)
set_option maxHeartbeats 4000000 in
set_option maxRecDepth 100000 in
theorem c_X6_digest_b {n : Nat} (hn : n ≤ 8) (hz : z 5 = nI n) (hB : hBool z) (hV : hVote z) (h12 : oneP (z 12) 8 = cntB z 1 n) (h13 : oneP (z 13) 8 = cntB z 2 n) {d : Nat} (hd : d < n) (hz2 : z 10 = nI d) (hd1 : z (14 + 16 * d) = 1) {u nb : Nat} (hu : u ≤ 6) (hm : mr 0 = nI u) (hnb : nb ≤ 60) (h1 : mr 1 = nI nb) (hvo : vf_n64 (vomP z n)) : zM l D (zT cI cC cM cB cJ) yX6_digest cX6_digest 2 (some .long) ({ frames := 6, cells := 0, slots := 0, locals := 140 } : Room) [.ref (q 0)] (moW cI q z hi tx pa ke mr hs wr) (moW cI q z hi tx pa (keI ke z n) (upd mr 2 0) (dgT z (mA z) (mB z n) (mC z n) n u (vomP z n).toInt64 tx nb) wr) (some (.long (dgT z (mA z) (mB z n) (mC z n) n u (vomP z n).toInt64 tx nb))) 0 0 := by
  refine z_enter (by decide) (Nat.le_of_ble_eq_true rfl) ?_
  intro p e s m below meth c A S hr hlocks hnm hN hA hK hP hD hS ls hl
  obtain ⟨hx, hb, hml, hown, hts⟩ := id S
  have hl : lv_has ls 2 [(0, .ref (q 0))] := hl
  have hP : va_P D vwCl (moW cI q z hi tx pa ke mr hs wr) s.heap := hP
  have hD : va_D A (moW cI q z hi tx pa ke mr hs wr) := hD
  refine lv_aload_n hx hb dX6_digest_0 rfl (lv_at hl 0 rfl) ?_
  refine lv_iconst (v := 0) hx hb dX6_digest_1 (by decide) ?_
  refine z_put (v := .int 0) (ty := .int) (ws2 := moW cI q z hi tx pa ke (upd mr 2 0) hs wr) hx hb hts inTX6 tyX6 tyX6_ok nmX6 hown hK hP hD hS (0) (mo_0) rfl 5 (by decide) (hts _ qf_X6_25) (fun _ h9 => h9) rfl (by decide +kernel) (rfl) (rfl) (Nat.le_of_ble_eq_true rfl) dX6_digest_2 (mo_w0 _ mfl_s2) (fun H locs hP hD hS => ?_)
  refine lv_aload_n hx hb dX6_digest_5 rfl (lv_at hl 0 rfl) ?_
  refine lv_ldc2 (v := (2539)) hx hb hown (hts _ ql_X6_192) dX6_digest_6 ?_
  refine z_put (v := .long (2539)) (ty := .long) (ws2 := moW cI q z hi tx pa ke (upd mr 2 0) (2539) wr) hx hb hts inTX6 tyX6 tyX6_ok nmX6 hown hK hP hD hS (0) (mo_0) rfl 11 (by decide) (hts _ qf_X6_184) (fun _ h9 => h9) rfl (by decide +kernel) (rfl) (rfl) (Nat.le_of_ble_eq_true rfl) dX6_digest_9 (rfl) (fun H locs hP hD hS => ?_)
  refine lv_iconst (v := 0) hx hb dX6_digest_12 (by decide) ?_
  refine lv_istore_n (lv' := [(1, .int 0), (0, .ref (q 0))]) hx hb dX6_digest_13 rfl hl (by decide) rfl (fun ls hl => ?_)
  have K14 : ∀ (n14 i : Nat), i + n14 = 14 → ∀ (H : Heap) (locs : List Loc), va_P D vwCl (moW cI q z hi tx pa ke (upd mr 2 0) (dgN (fun i => numP z n u (nI i)) 2539 i) wr) H → va_D A (moW cI q z hi tx pa ke (upd mr 2 0) (dgN (fun i => numP z n u (nI i)) 2539 i) wr) → va_S A s.heap H locs → ∀ ls : Array Slot, lv_has ls 2 [(0, .ref (q 0)), (1, .int (nI i))] → W p l e ({ frames := 6, cells := 0, slots := 0, locals := 140 } : Room) s m ([.ref (q 0)] : List Value).toArray below meth c H locs 0 0 (MQ below (zQ D (zT cI cC cM cB cJ) (moW cI q z hi tx pa (keI ke z n) (upd mr 2 0) (dgT z (mA z) (mB z n) (mC z n) n u (vomP z n).toInt64 tx nb) wr) (some (.long (dgT z (mA z) (mB z n) (mC z n) n u (vomP z n).toInt64 tx nb))) A) ([.ref (q 0)] : List Value).toArray s 0 0 A) (F0 m 14 ls []) := by
    intro n14
    induction n14 with
    | zero =>
      intro i h_i H locs hP hD hS ls hl
      have ei : 14 = i := by omega
      subst ei
      refine lv_iload_n hx hb dX6_digest_14 rfl (lv_at hl 1 rfl) ?_
      refine lv_bipush (v := 14) hx hb dX6_digest_15 (by decide) ?_
      refine lv_icmp_ge (tgt := 36) hx hb dX6_digest_17 (by decide) (fun c1 => ?_) (fun c1 => absurd (nI_le (a := 14) (b := 14) (by omega) (by omega)) c1)
      have c1 := z_nlt c1
      refine lv_iconst (v := 0) hx hb dX6_digest_36 (by decide) ?_
      refine lv_istore_n (lv' := [(1, .int 0), (0, .ref (q 0))]) hx hb dX6_digest_37 rfl hl (by decide) rfl (fun ls hl => ?_)
      have K38 : ∀ (n38 i : Nat), i + n38 = 5 → ∀ (H : Heap) (locs : List Loc), va_P D vwCl (moW cI q z hi tx pa ke (upd mr 2 0) (dgN z (dgN (fun i => numP z n u (nI i)) 2539 14) i) wr) H → va_D A (moW cI q z hi tx pa ke (upd mr 2 0) (dgN z (dgN (fun i => numP z n u (nI i)) 2539 14) i) wr) → va_S A s.heap H locs → ∀ ls : Array Slot, lv_has ls 2 [(0, .ref (q 0)), (1, .int (nI i))] → W p l e ({ frames := 6, cells := 0, slots := 0, locals := 140 } : Room) s m ([.ref (q 0)] : List Value).toArray below meth c H locs 0 0 (MQ below (zQ D (zT cI cC cM cB cJ) (moW cI q z hi tx pa (keI ke z n) (upd mr 2 0) (dgT z (mA z) (mB z n) (mC z n) n u (vomP z n).toInt64 tx nb) wr) (some (.long (dgT z (mA z) (mB z n) (mC z n) n u (vomP z n).toInt64 tx nb))) A) ([.ref (q 0)] : List Value).toArray s 0 0 A) (F0 m 38 ls []) := by
        intro n38
        induction n38 with
        | zero =>
          intro i h_i H locs hP hD hS ls hl
          have ei : 5 = i := by omega
          subst ei
          refine lv_iload_n hx hb dX6_digest_38 rfl (lv_at hl 1 rfl) ?_
          refine lv_iconst (v := 5) hx hb dX6_digest_39 (by decide) ?_
          refine lv_icmp_ge (tgt := 60) hx hb dX6_digest_40 (by decide) (fun c2 => ?_) (fun c2 => absurd (nI_le (a := 5) (b := 5) (by omega) (by omega)) c2)
          have c2 := z_nlt c2
          refine lv_iconst (v := 0) hx hb dX6_digest_60 (by decide) ?_
          refine lv_istore_n (lv' := [(1, .int 0), (0, .ref (q 0))]) hx hb dX6_digest_61 rfl hl (by decide) rfl (fun ls hl => ?_)
          have K62 : ∀ (n62 i : Nat), i + n62 = n → ∀ (H : Heap) (locs : List Loc), va_P D vwCl (moW cI q z hi tx pa (keI ke z i) (upd mr 2 0) (dgM z (mA z) (mB z n) (mC z n) (dgN z (dgN (fun i => numP z n u (nI i)) 2539 14) 5) i) wr) H → va_D A (moW cI q z hi tx pa (keI ke z i) (upd mr 2 0) (dgM z (mA z) (mB z n) (mC z n) (dgN z (dgN (fun i => numP z n u (nI i)) 2539 14) 5) i) wr) → va_S A s.heap H locs → ∀ ls : Array Slot, lv_has ls 2 [(0, .ref (q 0)), (1, .int (nI i))] → W p l e ({ frames := 6, cells := 0, slots := 0, locals := 140 } : Room) s m ([.ref (q 0)] : List Value).toArray below meth c H locs 0 0 (MQ below (zQ D (zT cI cC cM cB cJ) (moW cI q z hi tx pa (keI ke z n) (upd mr 2 0) (dgT z (mA z) (mB z n) (mC z n) n u (vomP z n).toInt64 tx nb) wr) (some (.long (dgT z (mA z) (mB z n) (mC z n) n u (vomP z n).toInt64 tx nb))) A) ([.ref (q 0)] : List Value).toArray s 0 0 A) (F0 m 62 ls []) := by
            intro n62
            induction n62 with
            | zero =>
              intro i h_i H locs hP hD hS ls hl
              have ei : n = i := by omega
              subst ei
              refine lv_iload_n hx hb dX6_digest_62 rfl (lv_at hl 1 rfl) ?_
              refine lv_aload_n hx hb dX6_digest_63 rfl (lv_at hl 0 rfl) ?_
              refine va_get (v := .ref (q 1)) hx hb hts inTX6 hown hK hP (0) (mo_0) rfl 0 (by decide) (hts _ qf_X6_7) (fun _ h9 => h9) (rfl) dX6_digest_64 ?_
              refine lv_iconst (v := 5) hx hb dX6_digest_67 (by decide) ?_
              refine va_iald hx hb hK hP (1) 0 (mo_1) rfl (vp_in_nI (show 5 < 142 by decide) (by omega)) dX6_digest_68 ?_
              refine z_top (v2 := .int (nI n)) (congrArg Value.int (((congrArg (zfn z) (z_cl (k := 5) rfl)).trans (zfn_at (by omega))).trans (hz))) ?_
              refine lv_icmp_ge (tgt := 83) hx hb dX6_digest_69 (by decide) (fun c3 => ?_) (fun c3 => absurd (nI_le (a := n) (b := n) (by omega) (by omega)) c3)
              have c3 := z_nlt c3
              refine lv_iconst (v := 0) hx hb dX6_digest_83 (by decide) ?_
              refine lv_istore_n (lv' := [(1, .int 0), (0, .ref (q 0))]) hx hb dX6_digest_84 rfl hl (by decide) rfl (fun ls hl => ?_)
              have K85 : ∀ (n85 i : Nat), i + n85 = 5 → ∀ (H : Heap) (locs : List Loc), va_P D vwCl (moW cI q z hi tx pa (keI ke z n) (upd mr 2 0) (dgN (fun i => mpP z i n) (dgM z (mA z) (mB z n) (mC z n) (dgN z (dgN (fun i => numP z n u (nI i)) 2539 14) 5) n) i) wr) H → va_D A (moW cI q z hi tx pa (keI ke z n) (upd mr 2 0) (dgN (fun i => mpP z i n) (dgM z (mA z) (mB z n) (mC z n) (dgN z (dgN (fun i => numP z n u (nI i)) 2539 14) 5) n) i) wr) → va_S A s.heap H locs → ∀ ls : Array Slot, lv_has ls 2 [(0, .ref (q 0)), (1, .int (nI i))] → W p l e ({ frames := 6, cells := 0, slots := 0, locals := 140 } : Room) s m ([.ref (q 0)] : List Value).toArray below meth c H locs 0 0 (MQ below (zQ D (zT cI cC cM cB cJ) (moW cI q z hi tx pa (keI ke z n) (upd mr 2 0) (dgT z (mA z) (mB z n) (mC z n) n u (vomP z n).toInt64 tx nb) wr) (some (.long (dgT z (mA z) (mB z n) (mC z n) n u (vomP z n).toInt64 tx nb))) A) ([.ref (q 0)] : List Value).toArray s 0 0 A) (F0 m 85 ls []) := by
                intro n85
                induction n85 with
                | zero =>
                  intro i h_i H locs hP hD hS ls hl
                  have ei : 5 = i := by omega
                  subst ei
                  refine lv_iload_n hx hb dX6_digest_85 rfl (lv_at hl 1 rfl) ?_
                  refine lv_iconst (v := 5) hx hb dX6_digest_86 (by decide) ?_
                  refine lv_icmp_ge (tgt := 106) hx hb dX6_digest_87 (by decide) (fun c4 => ?_) (fun c4 => absurd (nI_le (a := 5) (b := 5) (by omega) (by omega)) c4)
                  have c4 := z_nlt c4
                  refine lv_aload_n hx hb dX6_digest_106 rfl (lv_at hl 0 rfl) ?_
                  refine lv_aload_n hx hb dX6_digest_107 rfl (lv_at hl 0 rfl) ?_
                  refine z_callV1 (rest := [.ref (q 0)]) S (c_X6_needed_b (n := n) (show n ≤ 8 by omega) (hz) (hB) (d := d) (show d < n by omega) (hz2) hd1 h12) qm_X6_172 v_X6_needed ⟨Nat.le_of_ble_eq_true rfl, Nat.le_of_ble_eq_true rfl⟩ rfl rfl hN hK hP hD hS hA (0) (mo_0) rfl rfl hl.1 rfl (Nat.le_of_ble_eq_true rfl) dX6_digest_108 ⟨Nat.le_of_ble_eq_true rfl, Nat.le_of_ble_eq_true rfl⟩ (fun H locs hP hD hS => ?_)
                  refine lv_i2l hx hb dX6_digest_111 rfl ?_
                  refine z_callV0 (rest := []) S (c_X6_mix ((misP z n).toInt64)) qm_X6_188 v_X6_mix ⟨Nat.le_of_ble_eq_true rfl, Nat.le_of_ble_eq_true rfl⟩ rfl rfl hN hK hP hD hS hA (0) (mo_0) rfl rfl hl.1 rfl (Nat.le_of_ble_eq_true rfl) dX6_digest_112 ⟨Nat.le_of_ble_eq_true rfl, Nat.le_of_ble_eq_true rfl⟩ (fun H locs hP hD hS => ?_)
                  refine lv_aload_n hx hb dX6_digest_115 rfl (lv_at hl 0 rfl) ?_
                  refine lv_aload_n hx hb dX6_digest_116 rfl (lv_at hl 0 rfl) ?_
                  refine z_callV1 (rest := [.ref (q 0)]) S (c_X6_meanWorth (n := n) (show n ≤ 8 by omega) (hz)) qm_X6_178 v_X6_meanWorth ⟨Nat.le_of_ble_eq_true rfl, Nat.le_of_ble_eq_true rfl⟩ rfl rfl hN hK hP hD hS hA (0) (mo_0) rfl rfl hl.1 rfl (Nat.le_of_ble_eq_true rfl) dX6_digest_117 ⟨Nat.le_of_ble_eq_true rfl, Nat.le_of_ble_eq_true rfl⟩ (fun H locs hP hD hS => ?_)
                  refine z_callS1 (rest := [.ref (q 0)]) S (c_Jxe99ae_doubleToLongBits_ccdee (vomP z n) hvo) qm_X6_198 t_Jxe99ae_doubleToLongBits_ccdee ⟨Nat.le_of_ble_eq_true rfl, Nat.le_of_ble_eq_true rfl⟩ rfl rfl hN hK hP hD hS hA rfl hl.1 rfl (Nat.le_of_ble_eq_true rfl) dX6_digest_120 ⟨Nat.le_of_ble_eq_true rfl, Nat.le_of_ble_eq_true rfl⟩ (fun H locs hP hD hS => ?_)
                  refine z_callV0 (rest := []) S (c_X6_mix ((vomP z n).toInt64)) qm_X6_188 v_X6_mix ⟨Nat.le_of_ble_eq_true rfl, Nat.le_of_ble_eq_true rfl⟩ rfl rfl hN hK hP hD hS hA (0) (mo_0) rfl rfl hl.1 rfl (Nat.le_of_ble_eq_true rfl) dX6_digest_123 ⟨Nat.le_of_ble_eq_true rfl, Nat.le_of_ble_eq_true rfl⟩ (fun H locs hP hD hS => ?_)
                  refine lv_aload_n hx hb dX6_digest_126 rfl (lv_at hl 0 rfl) ?_
                  refine lv_aload_n hx hb dX6_digest_127 rfl (lv_at hl 0 rfl) ?_
                  refine va_get (v := .int (nI nb)) hx hb hts inTX6 hown hK hP (0) (mo_0) rfl 3 (by decide) (hts _ qf_X6_120) (fun _ h9 => h9) (congrArg (fun x => some (Value.int x)) ((upd_ne (by omega)).trans (h1))) dX6_digest_128 ?_
                  refine lv_i2l hx hb dX6_digest_131 rfl ?_
                  refine z_callV0 (rest := []) S (c_X6_mix ((nI nb).toInt64)) qm_X6_188 v_X6_mix ⟨Nat.le_of_ble_eq_true rfl, Nat.le_of_ble_eq_true rfl⟩ rfl rfl hN hK hP hD hS hA (0) (mo_0) rfl rfl hl.1 rfl (Nat.le_of_ble_eq_true rfl) dX6_digest_132 ⟨Nat.le_of_ble_eq_true rfl, Nat.le_of_ble_eq_true rfl⟩ (fun H locs hP hD hS => ?_)
                  refine lv_iconst (v := 0) hx hb dX6_digest_135 (by decide) ?_
                  refine lv_istore_n (lv' := [(1, .int 0), (0, .ref (q 0))]) hx hb dX6_digest_136 rfl hl (by decide) rfl (fun ls hl => ?_)
                  have K137 : ∀ (n137 i : Nat), i + n137 = nb → ∀ (H : Heap) (locs : List Loc), va_P D vwCl (moW cI q z hi tx pa (keI ke z n) (upd mr 2 0) (dgN tx (mx (mx (mx (dgS z (mA z) (mB z n) (mC z n) n u) (misP z n).toInt64) (vomP z n).toInt64) (nI nb).toInt64) i) wr) H → va_D A (moW cI q z hi tx pa (keI ke z n) (upd mr 2 0) (dgN tx (mx (mx (mx (dgS z (mA z) (mB z n) (mC z n) n u) (misP z n).toInt64) (vomP z n).toInt64) (nI nb).toInt64) i) wr) → va_S A s.heap H locs → ∀ ls : Array Slot, lv_has ls 2 [(0, .ref (q 0)), (1, .int (nI i))] → W p l e ({ frames := 6, cells := 0, slots := 0, locals := 140 } : Room) s m ([.ref (q 0)] : List Value).toArray below meth c H locs 0 0 (MQ below (zQ D (zT cI cC cM cB cJ) (moW cI q z hi tx pa (keI ke z n) (upd mr 2 0) (dgT z (mA z) (mB z n) (mC z n) n u (vomP z n).toInt64 tx nb) wr) (some (.long (dgT z (mA z) (mB z n) (mC z n) n u (vomP z n).toInt64 tx nb))) A) ([.ref (q 0)] : List Value).toArray s 0 0 A) (F0 m 137 ls []) := by
                    intro n137
                    induction n137 with
                    | zero =>
                      intro i h_i H locs hP hD hS ls hl
                      have ei : nb = i := by omega
                      subst ei
                      refine lv_iload_n hx hb dX6_digest_137 rfl (lv_at hl 1 rfl) ?_
                      refine lv_aload_n hx hb dX6_digest_138 rfl (lv_at hl 0 rfl) ?_
                      refine va_get (v := .int (nI nb)) hx hb hts inTX6 hown hK hP (0) (mo_0) rfl 3 (by decide) (hts _ qf_X6_120) (fun _ h9 => h9) (congrArg (fun x => some (Value.int x)) ((upd_ne (by omega)).trans (h1))) dX6_digest_139 ?_
                      refine lv_icmp_ge (tgt := 162) hx hb dX6_digest_142 (by decide) (fun c5 => ?_) (fun c5 => absurd (nI_le (a := nb) (b := nb) (by omega) (by omega)) c5)
                      have c5 := z_nlt c5
                      refine lv_aload_n hx hb dX6_digest_162 rfl (lv_at hl 0 rfl) ?_
                      refine va_get (v := .long (dgN tx (mx (mx (mx (dgS z (mA z) (mB z n) (mC z n) n u) (misP z n).toInt64) (vomP z n).toInt64) (nI nb).toInt64) nb)) hx hb hts inTX6 hown hK hP (0) (mo_0) rfl 11 (by decide) (hts _ qf_X6_184) (fun _ h9 => h9) (rfl) dX6_digest_163 ?_
                      exact z_lret hx hb hr hlocks hP hD hK hS (rfl) (rfl) dX6_digest_166
                    | succ n137 ih137 =>
                      intro i h_i H locs hP hD hS ls hl
                      have li : i < nb := by omega
                      refine lv_iload_n hx hb dX6_digest_137 rfl (lv_at hl 1 rfl) ?_
                      refine lv_aload_n hx hb dX6_digest_138 rfl (lv_at hl 0 rfl) ?_
                      refine va_get (v := .int (nI nb)) hx hb hts inTX6 hown hK hP (0) (mo_0) rfl 3 (by decide) (hts _ qf_X6_120) (fun _ h9 => h9) (congrArg (fun x => some (Value.int x)) ((upd_ne (by omega)).trans (h1))) dX6_digest_139 ?_
                      refine lv_icmp_ge (tgt := 162) hx hb dX6_digest_142 (by decide) (fun c6 => absurd c6 (nI_ge (a := i) (b := nb) (by omega) (by omega))) (fun c6 => ?_)
                      have c6 := z_lt c6
                      refine lv_aload_n hx hb dX6_digest_145 rfl (lv_at hl 0 rfl) ?_
                      refine lv_aload_n hx hb dX6_digest_146 rfl (lv_at hl 0 rfl) ?_
                      refine va_get (v := .ref (q 3)) hx hb hts inTX6 hown hK hP (0) (mo_0) rfl 4 (by decide) (hts _ qf_X6_16) (fun _ h9 => h9) (rfl) dX6_digest_147 ?_
                      refine lv_iload_n hx hb dX6_digest_150 rfl (lv_at hl 1 rfl) ?_
                      refine va_iald hx hb hK hP (3) 0 (mo_3) rfl (vp_in_nI (show i < 60 by omega) (by omega)) dX6_digest_151 ?_
                      refine z_top (v2 := .int (tx i)) (congrArg Value.int (congrArg tx (z_cl (k := i) rfl))) ?_
                      refine lv_i2l hx hb dX6_digest_152 rfl ?_
                      refine z_callV0 (rest := []) S (c_X6_mix ((tx i).toInt64)) qm_X6_188 v_X6_mix ⟨Nat.le_of_ble_eq_true rfl, Nat.le_of_ble_eq_true rfl⟩ rfl rfl hN hK hP hD hS hA (0) (mo_0) rfl rfl hl.1 rfl (Nat.le_of_ble_eq_true rfl) dX6_digest_153 ⟨Nat.le_of_ble_eq_true rfl, Nat.le_of_ble_eq_true rfl⟩ (fun H locs hP hD hS => ?_)
                      refine lv_iinc (v := nI (i + 1)) (lv' := [(1, .int (nI (i + 1))), (0, .ref (q 0))]) hx hb dX6_digest_156 hl (k := 1) rfl (nI_1 _) (by decide) rfl (fun ls hl => ?_)
                      refine lv_goto (tgt := 137) hx hb dX6_digest_159 (by decide) ?_
                      have hP := va_P_eq (w2 := moW cI q z hi tx pa (keI ke z n) (upd mr 2 0) (dgN tx (mx (mx (mx (dgS z (mA z) (mB z n) (mC z n) n u) (misP z n).toInt64) (vomP z n).toInt64) (nI nb).toInt64) (i + 1)) wr) (rfl) hP
                      have hD := va_D_eq (w2 := moW cI q z hi tx pa (keI ke z n) (upd mr 2 0) (dgN tx (mx (mx (mx (dgS z (mA z) (mB z n) (mC z n) n u) (misP z n).toInt64) (vomP z n).toInt64) (nI nb).toInt64) (i + 1)) wr) (rfl) hD
                      exact ih137 (i + 1) (by omega) _ _ hP hD hS ls (lv_sub hl [1, 0] rfl)
                  have hl := (congrArg (fun qv_ => lv_has ls 2 [(1, qv_), (0, .ref (q 0))]) (show Value.int 0 = .int (nI 0) from congrArg Value.int (rfl))).mp hl
                  have hP := va_P_eq (w2 := moW cI q z hi tx pa (keI ke z n) (upd mr 2 0) (dgN tx (mx (mx (mx (dgS z (mA z) (mB z n) (mC z n) n u) (misP z n).toInt64) (vomP z n).toInt64) (nI nb).toInt64) 0) wr) (rfl) hP
                  have hD := va_D_eq (w2 := moW cI q z hi tx pa (keI ke z n) (upd mr 2 0) (dgN tx (mx (mx (mx (dgS z (mA z) (mB z n) (mC z n) n u) (misP z n).toInt64) (vomP z n).toInt64) (nI nb).toInt64) 0) wr) (rfl) hD
                  exact K137 nb 0 (by omega) _ _ hP hD hS ls (lv_sub hl [1, 0] rfl)
                | succ n85 ih85 =>
                  intro i h_i H locs hP hD hS ls hl
                  have li : i < 5 := by omega
                  refine lv_iload_n hx hb dX6_digest_85 rfl (lv_at hl 1 rfl) ?_
                  refine lv_iconst (v := 5) hx hb dX6_digest_86 (by decide) ?_
                  refine lv_icmp_ge (tgt := 106) hx hb dX6_digest_87 (by decide) (fun c7 => absurd c7 (nI_ge (a := i) (b := 5) (by omega) (by omega))) (fun c7 => ?_)
                  have c7 := z_lt c7
                  refine lv_aload_n hx hb dX6_digest_90 rfl (lv_at hl 0 rfl) ?_
                  refine lv_aload_n hx hb dX6_digest_91 rfl (lv_at hl 0 rfl) ?_
                  refine lv_iload_n hx hb dX6_digest_92 rfl (lv_at hl 1 rfl) ?_
                  refine z_callV1 (rest := [.ref (q 0)]) S (c_X6_ripestNow (n := n) (show n ≤ 8 by omega) (hz) (hB) i (show i < 5 by omega)) qm_X6_175 v_X6_ripestNow ⟨Nat.le_of_ble_eq_true rfl, Nat.le_of_ble_eq_true rfl⟩ rfl rfl hN hK hP hD hS hA (0) (mo_0) rfl rfl hl.1 rfl (Nat.le_of_ble_eq_true rfl) dX6_digest_93 ⟨Nat.le_of_ble_eq_true rfl, Nat.le_of_ble_eq_true rfl⟩ (fun H locs hP hD hS => ?_)
                  refine lv_i2l hx hb dX6_digest_96 rfl ?_
                  refine z_callV0 (rest := []) S (c_X6_mix ((mpP z i n).toInt64)) qm_X6_188 v_X6_mix ⟨Nat.le_of_ble_eq_true rfl, Nat.le_of_ble_eq_true rfl⟩ rfl rfl hN hK hP hD hS hA (0) (mo_0) rfl rfl hl.1 rfl (Nat.le_of_ble_eq_true rfl) dX6_digest_97 ⟨Nat.le_of_ble_eq_true rfl, Nat.le_of_ble_eq_true rfl⟩ (fun H locs hP hD hS => ?_)
                  refine lv_iinc (v := nI (i + 1)) (lv' := [(1, .int (nI (i + 1))), (0, .ref (q 0))]) hx hb dX6_digest_100 hl (k := 1) rfl (nI_1 _) (by decide) rfl (fun ls hl => ?_)
                  refine lv_goto (tgt := 85) hx hb dX6_digest_103 (by decide) ?_
                  have hP := va_P_eq (w2 := moW cI q z hi tx pa (keI ke z n) (upd mr 2 0) (dgN (fun i => mpP z i n) (dgM z (mA z) (mB z n) (mC z n) (dgN z (dgN (fun i => numP z n u (nI i)) 2539 14) 5) n) (i + 1)) wr) (rfl) hP
                  have hD := va_D_eq (w2 := moW cI q z hi tx pa (keI ke z n) (upd mr 2 0) (dgN (fun i => mpP z i n) (dgM z (mA z) (mB z n) (mC z n) (dgN z (dgN (fun i => numP z n u (nI i)) 2539 14) 5) n) (i + 1)) wr) (rfl) hD
                  exact ih85 (i + 1) (by omega) _ _ hP hD hS ls (lv_sub hl [1, 0] rfl)
              have hl := (congrArg (fun qv_ => lv_has ls 2 [(1, qv_), (0, .ref (q 0))]) (show Value.int 0 = .int (nI 0) from congrArg Value.int (rfl))).mp hl
              have hP := va_P_eq (w2 := moW cI q z hi tx pa (keI ke z n) (upd mr 2 0) (dgN (fun i => mpP z i n) (dgM z (mA z) (mB z n) (mC z n) (dgN z (dgN (fun i => numP z n u (nI i)) 2539 14) 5) n) 0) wr) (rfl) hP
              have hD := va_D_eq (w2 := moW cI q z hi tx pa (keI ke z n) (upd mr 2 0) (dgN (fun i => mpP z i n) (dgM z (mA z) (mB z n) (mC z n) (dgN z (dgN (fun i => numP z n u (nI i)) 2539 14) 5) n) 0) wr) (rfl) hD
              exact K85 5 0 (by omega) _ _ hP hD hS ls (lv_sub hl [1, 0] rfl)
            | succ n62 ih62 =>
              intro i h_i H locs hP hD hS ls hl
              have li : i < n := by omega
              refine lv_iload_n hx hb dX6_digest_62 rfl (lv_at hl 1 rfl) ?_
              refine lv_aload_n hx hb dX6_digest_63 rfl (lv_at hl 0 rfl) ?_
              refine va_get (v := .ref (q 1)) hx hb hts inTX6 hown hK hP (0) (mo_0) rfl 0 (by decide) (hts _ qf_X6_7) (fun _ h9 => h9) (rfl) dX6_digest_64 ?_
              refine lv_iconst (v := 5) hx hb dX6_digest_67 (by decide) ?_
              refine va_iald hx hb hK hP (1) 0 (mo_1) rfl (vp_in_nI (show 5 < 142 by decide) (by omega)) dX6_digest_68 ?_
              refine z_top (v2 := .int (nI n)) (congrArg Value.int (((congrArg (zfn z) (z_cl (k := 5) rfl)).trans (zfn_at (by omega))).trans (hz))) ?_
              refine lv_icmp_ge (tgt := 83) hx hb dX6_digest_69 (by decide) (fun c8 => absurd c8 (nI_ge (a := i) (b := n) (by omega) (by omega))) (fun c8 => ?_)
              have c8 := z_lt c8
              refine lv_aload_n hx hb dX6_digest_72 rfl (lv_at hl 0 rfl) ?_
              refine lv_iload_n hx hb dX6_digest_73 rfl (lv_at hl 1 rfl) ?_
              refine z_callV0 (rest := []) S (c_X6_mixMember (n := n) (show n ≤ 8 by omega) (hz) (hB) hV i (show i < 8 by omega)) qm_X6_194 v_X6_mixMember ⟨Nat.le_of_ble_eq_true rfl, Nat.le_of_ble_eq_true rfl⟩ rfl rfl hN hK hP hD hS hA (0) (mo_0) rfl rfl hl.1 rfl (Nat.le_of_ble_eq_true rfl) dX6_digest_74 ⟨Nat.le_of_ble_eq_true rfl, Nat.le_of_ble_eq_true rfl⟩ (fun H locs hP hD hS => ?_)
              refine lv_iinc (v := nI (i + 1)) (lv' := [(1, .int (nI (i + 1))), (0, .ref (q 0))]) hx hb dX6_digest_77 hl (k := 1) rfl (nI_1 _) (by decide) rfl (fun ls hl => ?_)
              refine lv_goto (tgt := 62) hx hb dX6_digest_80 (by decide) ?_
              have hP := va_P_eq (w2 := moW cI q z hi tx pa (keI ke z (i + 1)) (upd mr 2 0) (dgM z (mA z) (mB z n) (mC z n) (dgN z (dgN (fun i => numP z n u (nI i)) 2539 14) 5) (i + 1)) wr) (rfl) hP
              have hD := va_D_eq (w2 := moW cI q z hi tx pa (keI ke z (i + 1)) (upd mr 2 0) (dgM z (mA z) (mB z n) (mC z n) (dgN z (dgN (fun i => numP z n u (nI i)) 2539 14) 5) (i + 1)) wr) (rfl) hD
              exact ih62 (i + 1) (by omega) _ _ hP hD hS ls (lv_sub hl [1, 0] rfl)
          have hl := (congrArg (fun qv_ => lv_has ls 2 [(1, qv_), (0, .ref (q 0))]) (show Value.int 0 = .int (nI 0) from congrArg Value.int (rfl))).mp hl
          have hP := va_P_eq (w2 := moW cI q z hi tx pa (keI ke z 0) (upd mr 2 0) (dgM z (mA z) (mB z n) (mC z n) (dgN z (dgN (fun i => numP z n u (nI i)) 2539 14) 5) 0) wr) (rfl) hP
          have hD := va_D_eq (w2 := moW cI q z hi tx pa (keI ke z 0) (upd mr 2 0) (dgM z (mA z) (mB z n) (mC z n) (dgN z (dgN (fun i => numP z n u (nI i)) 2539 14) 5) 0) wr) (rfl) hD
          exact K62 n 0 (by omega) _ _ hP hD hS ls (lv_sub hl [1, 0] rfl)
        | succ n38 ih38 =>
          intro i h_i H locs hP hD hS ls hl
          have li : i < 5 := by omega
          refine lv_iload_n hx hb dX6_digest_38 rfl (lv_at hl 1 rfl) ?_
          refine lv_iconst (v := 5) hx hb dX6_digest_39 (by decide) ?_
          refine lv_icmp_ge (tgt := 60) hx hb dX6_digest_40 (by decide) (fun c9 => absurd c9 (nI_ge (a := i) (b := 5) (by omega) (by omega))) (fun c9 => ?_)
          have c9 := z_lt c9
          refine lv_aload_n hx hb dX6_digest_43 rfl (lv_at hl 0 rfl) ?_
          refine lv_aload_n hx hb dX6_digest_44 rfl (lv_at hl 0 rfl) ?_
          refine va_get (v := .ref (q 1)) hx hb hts inTX6 hown hK hP (0) (mo_0) rfl 0 (by decide) (hts _ qf_X6_7) (fun _ h9 => h9) (rfl) dX6_digest_45 ?_
          refine lv_iload_n hx hb dX6_digest_48 rfl (lv_at hl 1 rfl) ?_
          refine va_iald hx hb hK hP (1) 0 (mo_1) rfl (vp_in_nI (show i < 142 by omega) (by omega)) dX6_digest_49 ?_
          refine z_top (v2 := .int (z i)) (congrArg Value.int (((congrArg (zfn z) (z_cl (k := i) rfl)).trans (zfn_at (by omega))).trans (rfl))) ?_
          refine lv_i2l hx hb dX6_digest_50 rfl ?_
          refine z_callV0 (rest := []) S (c_X6_mix ((z i).toInt64)) qm_X6_188 v_X6_mix ⟨Nat.le_of_ble_eq_true rfl, Nat.le_of_ble_eq_true rfl⟩ rfl rfl hN hK hP hD hS hA (0) (mo_0) rfl rfl hl.1 rfl (Nat.le_of_ble_eq_true rfl) dX6_digest_51 ⟨Nat.le_of_ble_eq_true rfl, Nat.le_of_ble_eq_true rfl⟩ (fun H locs hP hD hS => ?_)
          refine lv_iinc (v := nI (i + 1)) (lv' := [(1, .int (nI (i + 1))), (0, .ref (q 0))]) hx hb dX6_digest_54 hl (k := 1) rfl (nI_1 _) (by decide) rfl (fun ls hl => ?_)
          refine lv_goto (tgt := 38) hx hb dX6_digest_57 (by decide) ?_
          have hP := va_P_eq (w2 := moW cI q z hi tx pa ke (upd mr 2 0) (dgN z (dgN (fun i => numP z n u (nI i)) 2539 14) (i + 1)) wr) (rfl) hP
          have hD := va_D_eq (w2 := moW cI q z hi tx pa ke (upd mr 2 0) (dgN z (dgN (fun i => numP z n u (nI i)) 2539 14) (i + 1)) wr) (rfl) hD
          exact ih38 (i + 1) (by omega) _ _ hP hD hS ls (lv_sub hl [1, 0] rfl)
      have hl := (congrArg (fun qv_ => lv_has ls 2 [(1, qv_), (0, .ref (q 0))]) (show Value.int 0 = .int (nI 0) from congrArg Value.int (rfl))).mp hl
      have hP := va_P_eq (w2 := moW cI q z hi tx pa ke (upd mr 2 0) (dgN z (dgN (fun i => numP z n u (nI i)) 2539 14) 0) wr) (rfl) hP
      have hD := va_D_eq (w2 := moW cI q z hi tx pa ke (upd mr 2 0) (dgN z (dgN (fun i => numP z n u (nI i)) 2539 14) 0) wr) (rfl) hD
      exact K38 5 0 (by omega) _ _ hP hD hS ls (lv_sub hl [1, 0] rfl)
    | succ n14 ih14 =>
      intro i h_i H locs hP hD hS ls hl
      have li : i < 14 := by omega
      refine lv_iload_n hx hb dX6_digest_14 rfl (lv_at hl 1 rfl) ?_
      refine lv_bipush (v := 14) hx hb dX6_digest_15 (by decide) ?_
      refine lv_icmp_ge (tgt := 36) hx hb dX6_digest_17 (by decide) (fun c10 => absurd c10 (nI_ge (a := i) (b := 14) (by omega) (by omega))) (fun c10 => ?_)
      have c10 := z_lt c10
      refine lv_aload_n hx hb dX6_digest_20 rfl (lv_at hl 0 rfl) ?_
      refine lv_aload_n hx hb dX6_digest_21 rfl (lv_at hl 0 rfl) ?_
      refine lv_iload_n hx hb dX6_digest_22 rfl (lv_at hl 1 rfl) ?_
      refine z_callV1 (rest := [.ref (q 0)]) S (c_X6_counted (n := n) (show n ≤ 8 by omega) (hz) (hB) h12 h13 (u := u) ((upd_ne (by omega)).trans (hm)) (nI i)) qm_X6_160 v_X6_counted ⟨Nat.le_of_ble_eq_true rfl, Nat.le_of_ble_eq_true rfl⟩ rfl rfl hN hK hP hD hS hA (0) (mo_0) rfl rfl hl.1 rfl (Nat.le_of_ble_eq_true rfl) dX6_digest_23 ⟨Nat.le_of_ble_eq_true rfl, Nat.le_of_ble_eq_true rfl⟩ (fun H locs hP hD hS => ?_)
      refine lv_i2l hx hb dX6_digest_26 rfl ?_
      refine z_callV0 (rest := []) S (c_X6_mix ((numP z n u (nI i)).toInt64)) qm_X6_188 v_X6_mix ⟨Nat.le_of_ble_eq_true rfl, Nat.le_of_ble_eq_true rfl⟩ rfl rfl hN hK hP hD hS hA (0) (mo_0) rfl rfl hl.1 rfl (Nat.le_of_ble_eq_true rfl) dX6_digest_27 ⟨Nat.le_of_ble_eq_true rfl, Nat.le_of_ble_eq_true rfl⟩ (fun H locs hP hD hS => ?_)
      refine lv_iinc (v := nI (i + 1)) (lv' := [(1, .int (nI (i + 1))), (0, .ref (q 0))]) hx hb dX6_digest_30 hl (k := 1) rfl (nI_1 _) (by decide) rfl (fun ls hl => ?_)
      refine lv_goto (tgt := 14) hx hb dX6_digest_33 (by decide) ?_
      have hP := va_P_eq (w2 := moW cI q z hi tx pa ke (upd mr 2 0) (dgN (fun i => numP z n u (nI i)) 2539 (i + 1)) wr) (rfl) hP
      have hD := va_D_eq (w2 := moW cI q z hi tx pa ke (upd mr 2 0) (dgN (fun i => numP z n u (nI i)) 2539 (i + 1)) wr) (rfl) hD
      exact ih14 (i + 1) (by omega) _ _ hP hD hS ls (lv_sub hl [1, 0] rfl)
  have hl := (congrArg (fun qv_ => lv_has ls 2 [(1, qv_), (0, .ref (q 0))]) (show Value.int 0 = .int (nI 0) from congrArg Value.int (rfl))).mp hl
  have hP := va_P_eq (w2 := moW cI q z hi tx pa ke (upd mr 2 0) (dgN (fun i => numP z n u (nI i)) 2539 0) wr) (rfl) hP
  have hD := va_D_eq (w2 := moW cI q z hi tx pa ke (upd mr 2 0) (dgN (fun i => numP z n u (nI i)) 2539 0) wr) (rfl) hD
  exact K14 14 0 (by omega) _ _ hP hD hS ls (lv_sub hl [1, 0] rfl)
end XB
