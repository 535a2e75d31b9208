/-! The cases of the law's loop, on. -/
set_option maxHeartbeats 4000000 in
set_option maxRecDepth 100000 in
theorem k_vote_a0 {p : Program} {l : Launch} {e : Env} {s : State} {m : MethodId} {below : List Frame} {meth : Method} {c : Code} {b L : Nat} {xs : Nat → Int32} {D : va_G} {cI cC cM cB cJ : ClassId} {ad t : Nat → Nat} {x : Nat} {h : Nat → Nat} {ah : Nat → Nat → Nat} {q : Nat → Nat} {o : Nat} {x4 : Int32} {C cells slots : Nat} {n : Nat} {z : Nat → Int32} {zh : Nat → Nat → Int32} {nx kp : Nat} {hi : Nat → Int32} {H : Nat → Nat → Int32} {T : Nat → Int32} {nb : Nat} {r pa ke mr : Nat → Int32} {hs : Int64} {fo : Nat → Int64} {Hp : Heap} {locs : List Loc} {ls : Array Slot} {p1 p2 p3 p4 : Int32} (hz2 : z 10 = -1) (hbf : p2 = 0) (E : lwEnv p s m meth c b L xs D cI cC cM cB cJ) (hfl : l.stackTraces = false) (hC : C + 10 ≤ 6000) (hC1 : 1 ≤ C) (hI : lwI C n z zh nx kp hi H T nb mr) (hcs : cells + 1 ≤ 601024 ∧ slots + 6 ≤ 7293034) (hP : va_P D vwCl (xw0 cI cC cM cB ad z t T (nI nb) r x h ah (nI nx) (nI kp) zh (outC cJ o fo :: moW cI q z hi T pa ke mr hs [])) Hp) (hD : va_D (fun q : Nat => s.heap.size ≤ q) (xw0 cI cC cM cB ad z t T (nI nb) r x h ah (nI nx) (nI kp) zh (outC cJ o fo :: moW cI q z hi T pa ke mr hs []))) (hS : va_S (fun q : Nat => s.heap.size ≤ q) s.heap Hp locs) (hl : lv_has ls 9 (lwL b x o q x4)) (sc : lwScr xs L x4 p1 p2 p3 p4) (kk : lwK p l e s m below meth c b D cI cC cM cB cJ ad t x h ah q o x4 (C + 10) (cells + 1) (slots + 6)) : W p l e room_1 s m #[Value.ref b] below meth c Hp locs cells slots (lw_Z below #[Value.ref b] s) (F0 m 608 ls []) := by
  obtain ⟨⟨hx, hb, hr, hml, hown, hts, hX, hbl, hlocks, hgv⟩, hCn, hJ, hN, hK⟩ := id E
  have S : CallFix p m c code 9 s #[Value.ref b] TT RL := ⟨hx, hb, hml, hown, fun w hw => hts w (List.mem_filter.mp hw).1⟩
  have hA : ∀ q : Nat, s.heap.size ≤ q → (fun q : Nat => s.heap.size ≤ q) q := fun _ h => h
  have hbA : ¬ (fun q : Nat => s.heap.size ≤ q) b := Nat.not_le.mpr hbl
  obtain ⟨hR, hH, hnb, hT, hm0, hm1⟩ := id hI
  obtain ⟨hn, hz, hB, -⟩ := id hR
  obtain ⟨hnx, hkp, hBh, -⟩ := id hH
  obtain ⟨s1, s2, s3, s4⟩ := sc
  refine lv_aload_n hx hb dL_law_608 rfl (lv_at hl 1 rfl) ?_
  refine lv_aload_n hx hb dL_law_609 rfl (lv_at hl 0 rfl) ?_
  refine lv_iload hx hb dL_law_610 (lv_at hl 4 rfl) ?_
  refine lv_iconst (v := 1) hx hb dL_law_612 (by decide) ?_
  refine lv_iadd hx hb dL_law_613 ?_
  refine z_sld hx hb hX hbl hbA hS s1 dL_law_614 ?_
  refine lv_aload_n hx hb dL_law_615 rfl (lv_at hl 0 rfl) ?_
  refine lv_iload hx hb dL_law_616 (lv_at hl 4 rfl) ?_
  refine lv_iconst (v := 2) hx hb dL_law_618 (by decide) ?_
  refine lv_iadd hx hb dL_law_619 ?_
  refine z_sld hx hb hX hbl hbA hS s2 dL_law_620 ?_
  refine lv_if_eq (tgt := 628) hx hb dL_law_621 (by decide) (fun _ => ?_) (fun q9 => absurd hbf q9)
  refine lv_iconst (v := 0) hx hb dL_law_628 (by decide) ?_
  refine lv_aload_n hx hb dL_law_629 rfl (lv_at hl 3 rfl) ?_
  refine z_callH (n := 4) (As := [.ref x, .int p1, .int 0, .ref o]) (rest := []) S (c_L_vote_a (fo := fo) (wr := moW cI q z hi T pa ke mr hs []) hfl hn hz hnx hkp hB hz2 p1 0) qm_L_118 ⟨qt_L_vote, qn_L, qw_L_vote⟩ ⟨by decide, by decide, by decide +kernel⟩ ⟨Nat.le_of_ble_eq_true rfl, Nat.le_of_ble_eq_true rfl⟩ rfl rfl hCn hJ hN hK hP hD hS hA rfl hl.1 rfl (Nat.le_of_ble_eq_true rfl) dL_law_630 hcs (fun Hp locs hP hD hS => ?_)
  refine lv_istore (lv' := (5, .int (kVote z n p1)) :: lwL b x o q x4) hx hb dL_law_633 hl (by decide) rfl (fun ls hl => ?_)
  by_cases hk : (kVote z n p1) = 0
  · rw [if_pos hk] at hP hD
    exact absurd hz2 (k0_vote hk).2.1
  · rw [if_neg hk] at hP hD
    have M := c_X6_vote_a (l := l) (D := D) (cI := cI) (cC := cC) (cM := cM) (cB := cB) (cJ := cJ) (q := q) (hi := hi) (tx := T) (pa := pa) (ke := ke) (mr := mr) (hs := hs) (wr := xw0 cI cC cM cB ad z t T (nI nb) r x h ah (nI nx) (nI kp) zh [outC cJ o fo]) hn hz hkp hm0 hB (rOK_vote hR) hz2 p1 0
    simp only [xwf, xv, if_neg hk] at M
    refine lv_aload_n hx hb dL_law_635 rfl (lv_at hl 3 rfl) ?_
    refine lv_aload_n hx hb dL_law_636 rfl (lv_at hl 1 rfl) ?_
    refine lv_iload hx hb dL_law_637 (lv_at hl 5 rfl) ?_
    refine lv_iconst (v := 1) hx hb dL_law_639 (by decide) ?_
    refine lv_iadd hx hb dL_law_640 ?_
    refine z_sld hx hb hX hbl hbA hS s1 dL_law_641 ?_
    refine lv_aload_n hx hb dL_law_642 rfl (lv_at hl 1 rfl) ?_
    refine lv_iload hx hb dL_law_643 (lv_at hl 5 rfl) ?_
    refine lv_iconst (v := 2) hx hb dL_law_645 (by decide) ?_
    refine lv_iadd hx hb dL_law_646 ?_
    refine z_sld hx hb hX hbl hbA hS s2 dL_law_647 ?_
    refine lv_if_eq (tgt := 655) hx hb dL_law_648 (by decide) (fun _ => ?_) (fun q9 => absurd hbf q9)
    refine lv_iconst (v := 0) hx hb dL_law_655 (by decide) ?_
    refine z_callV1 (n := 2) (As := [.int p1, .int 0]) (rest := []) S (zM_perm lw_perm lw_perm.symm M) qm_L_121 ⟨⟨qi_X6_vote, qs_X6_vote, qn_X6, qc_X6_vote⟩, rfl, by decide, by decide, by decide +kernel⟩ ⟨Nat.le_of_ble_eq_true rfl, Nat.le_of_ble_eq_true rfl⟩ rfl rfl hN hK hP hD hS hA 140 rfl rfl rfl hl.1 rfl (Nat.le_of_ble_eq_true rfl) dL_law_656 hcs (fun Hp locs hP hD hS => ?_)
    have hKt : (upd mr 2 (kVote z n p1)) 2 = (kVote z n p1) := upd_eq rfl
    have hKv : (kVote z n p1) = 0 → fo 0 = (0 : Int32).toInt64 := fun h9 => absurd h9 hk
    refine lw_tail (o := o) (q := q) (fo := fo) S (zM_perm lw_perm lw_perm.symm (c_X6_thrown (q := q) (mr := (upd mr 2 (kVote z n p1))))) ⟨Nat.le_of_ble_eq_true rfl, Nat.le_of_ble_eq_true rfl⟩ hN hK hP hD hS hA rfl rfl hcs hl hKt hKv dL_law_659 dL_law_661 dL_law_662 dL_law_665 dL_law_667 dL_law_672 dL_law_674 dL_law_677 dL_law_678 dL_law_679 dL_law_680 dL_law_682 dL_law_683 dL_law_684 dL_law_689 (by decide) (fun Hp locs ls hP hD hS hl => ?_)
    exact kk n z zh nx kp hi H T nb r pa ke (upd mr 2 (kVote z n p1)) hs fo (lwI_up hI (by omega) (upd_ne (by decide)) (upd_ne (by decide))) Hp locs ls hP hD hS hl
set_option maxHeartbeats 4000000 in
set_option maxRecDepth 100000 in
theorem k_vote_a1 {p : Program} {l : Launch} {e : Env} {s : State} {m : MethodId} {below : List Frame} {meth : Method} {c : Code} {b L : Nat} {xs : Nat → Int32} {D : va_G} {cI cC cM cB cJ : ClassId} {ad t : Nat → Nat} {x : Nat} {h : Nat → Nat} {ah : Nat → Nat → Nat} {q : Nat → Nat} {o : Nat} {x4 : Int32} {C cells slots : Nat} {n : Nat} {z : Nat → Int32} {zh : Nat → Nat → Int32} {nx kp : Nat} {hi : Nat → Int32} {H : Nat → Nat → Int32} {T : Nat → Int32} {nb : Nat} {r pa ke mr : Nat → Int32} {hs : Int64} {fo : Nat → Int64} {Hp : Heap} {locs : List Loc} {ls : Array Slot} {p1 p2 p3 p4 : Int32} (hz2 : z 10 = -1) (hbf : ¬ p2 = 0) (E : lwEnv p s m meth c b L xs D cI cC cM cB cJ) (hfl : l.stackTraces = false) (hC : C + 10 ≤ 6000) (hC1 : 1 ≤ C) (hI : lwI C n z zh nx kp hi H T nb mr) (hcs : cells + 1 ≤ 601024 ∧ slots + 6 ≤ 7293034) (hP : va_P D vwCl (xw0 cI cC cM cB ad z t T (nI nb) r x h ah (nI nx) (nI kp) zh (outC cJ o fo :: moW cI q z hi T pa ke mr hs [])) Hp) (hD : va_D (fun q : Nat => s.heap.size ≤ q) (xw0 cI cC cM cB ad z t T (nI nb) r x h ah (nI nx) (nI kp) zh (outC cJ o fo :: moW cI q z hi T pa ke mr hs []))) (hS : va_S (fun q : Nat => s.heap.size ≤ q) s.heap Hp locs) (hl : lv_has ls 9 (lwL b x o q x4)) (sc : lwScr xs L x4 p1 p2 p3 p4) (kk : lwK p l e s m below meth c b D cI cC cM cB cJ ad t x h ah q o x4 (C + 10) (cells + 1) (slots + 6)) : W p l e room_1 s m #[Value.ref b] below meth c Hp locs cells slots (lw_Z below #[Value.ref b] s) (F0 m 608 ls []) := by
  obtain ⟨⟨hx, hb, hr, hml, hown, hts, hX, hbl, hlocks, hgv⟩, hCn, hJ, hN, hK⟩ := id E
  have S : CallFix p m c code 9 s #[Value.ref b] TT RL := ⟨hx, hb, hml, hown, fun w hw => hts w (List.mem_filter.mp hw).1⟩
  have hA : ∀ q : Nat, s.heap.size ≤ q → (fun q : Nat => s.heap.size ≤ q) q := fun _ h => h
  have hbA : ¬ (fun q : Nat => s.heap.size ≤ q) b := Nat.not_le.mpr hbl
  obtain ⟨hR, hH, hnb, hT, hm0, hm1⟩ := id hI
  obtain ⟨hn, hz, hB, -⟩ := id hR
  obtain ⟨hnx, hkp, hBh, -⟩ := id hH
  obtain ⟨s1, s2, s3, s4⟩ := sc
  refine lv_aload_n hx hb dL_law_608 rfl (lv_at hl 1 rfl) ?_
  refine lv_aload_n hx hb dL_law_609 rfl (lv_at hl 0 rfl) ?_
  refine lv_iload hx hb dL_law_610 (lv_at hl 4 rfl) ?_
  refine lv_iconst (v := 1) hx hb dL_law_612 (by decide) ?_
  refine lv_iadd hx hb dL_law_613 ?_
  refine z_sld hx hb hX hbl hbA hS s1 dL_law_614 ?_
  refine lv_aload_n hx hb dL_law_615 rfl (lv_at hl 0 rfl) ?_
  refine lv_iload hx hb dL_law_616 (lv_at hl 4 rfl) ?_
  refine lv_iconst (v := 2) hx hb dL_law_618 (by decide) ?_
  refine lv_iadd hx hb dL_law_619 ?_
  refine z_sld hx hb hX hbl hbA hS s2 dL_law_620 ?_
  refine lv_if_eq (tgt := 628) hx hb dL_law_621 (by decide) (fun q9 => absurd q9 hbf) (fun _ => ?_)
  refine lv_iconst (v := 1) hx hb dL_law_624 (by decide) ?_
  refine lv_goto (tgt := 629) hx hb dL_law_625 (by decide) ?_
  refine lv_aload_n hx hb dL_law_629 rfl (lv_at hl 3 rfl) ?_
  refine z_callH (n := 4) (As := [.ref x, .int p1, .int 1, .ref o]) (rest := []) S (c_L_vote_a (fo := fo) (wr := moW cI q z hi T pa ke mr hs []) hfl hn hz hnx hkp hB hz2 p1 1) qm_L_118 ⟨qt_L_vote, qn_L, qw_L_vote⟩ ⟨by decide, by decide, by decide +kernel⟩ ⟨Nat.le_of_ble_eq_true rfl, Nat.le_of_ble_eq_true rfl⟩ rfl rfl hCn hJ hN hK hP hD hS hA rfl hl.1 rfl (Nat.le_of_ble_eq_true rfl) dL_law_630 hcs (fun Hp locs hP hD hS => ?_)
  refine lv_istore (lv' := (5, .int (kVote z n p1)) :: lwL b x o q x4) hx hb dL_law_633 hl (by decide) rfl (fun ls hl => ?_)
  by_cases hk : (kVote z n p1) = 0
  · rw [if_pos hk] at hP hD
    exact absurd hz2 (k0_vote hk).2.1
  · rw [if_neg hk] at hP hD
    have M := c_X6_vote_a (l := l) (D := D) (cI := cI) (cC := cC) (cM := cM) (cB := cB) (cJ := cJ) (q := q) (hi := hi) (tx := T) (pa := pa) (ke := ke) (mr := mr) (hs := hs) (wr := xw0 cI cC cM cB ad z t T (nI nb) r x h ah (nI nx) (nI kp) zh [outC cJ o fo]) hn hz hkp hm0 hB (rOK_vote hR) hz2 p1 1
    simp only [xwf, xv, if_neg hk] at M
    refine lv_aload_n hx hb dL_law_635 rfl (lv_at hl 3 rfl) ?_
    refine lv_aload_n hx hb dL_law_636 rfl (lv_at hl 1 rfl) ?_
    refine lv_iload hx hb dL_law_637 (lv_at hl 5 rfl) ?_
    refine lv_iconst (v := 1) hx hb dL_law_639 (by decide) ?_
    refine lv_iadd hx hb dL_law_640 ?_
    refine z_sld hx hb hX hbl hbA hS s1 dL_law_641 ?_
    refine lv_aload_n hx hb dL_law_642 rfl (lv_at hl 1 rfl) ?_
    refine lv_iload hx hb dL_law_643 (lv_at hl 5 rfl) ?_
    refine lv_iconst (v := 2) hx hb dL_law_645 (by decide) ?_
    refine lv_iadd hx hb dL_law_646 ?_
    refine z_sld hx hb hX hbl hbA hS s2 dL_law_647 ?_
    refine lv_if_eq (tgt := 655) hx hb dL_law_648 (by decide) (fun q9 => absurd q9 hbf) (fun _ => ?_)
    refine lv_iconst (v := 1) hx hb dL_law_651 (by decide) ?_
    refine lv_goto (tgt := 656) hx hb dL_law_652 (by decide) ?_
    refine z_callV1 (n := 2) (As := [.int p1, .int 1]) (rest := []) S (zM_perm lw_perm lw_perm.symm M) qm_L_121 ⟨⟨qi_X6_vote, qs_X6_vote, qn_X6, qc_X6_vote⟩, rfl, by decide, by decide, by decide +kernel⟩ ⟨Nat.le_of_ble_eq_true rfl, Nat.le_of_ble_eq_true rfl⟩ rfl rfl hN hK hP hD hS hA 140 rfl rfl rfl hl.1 rfl (Nat.le_of_ble_eq_true rfl) dL_law_656 hcs (fun Hp locs hP hD hS => ?_)
    have hKt : (upd mr 2 (kVote z n p1)) 2 = (kVote z n p1) := upd_eq rfl
    have hKv : (kVote z n p1) = 0 → fo 0 = (0 : Int32).toInt64 := fun h9 => absurd h9 hk
    refine lw_tail (o := o) (q := q) (fo := fo) S (zM_perm lw_perm lw_perm.symm (c_X6_thrown (q := q) (mr := (upd mr 2 (kVote z n p1))))) ⟨Nat.le_of_ble_eq_true rfl, Nat.le_of_ble_eq_true rfl⟩ hN hK hP hD hS hA rfl rfl hcs hl hKt hKv dL_law_659 dL_law_661 dL_law_662 dL_law_665 dL_law_667 dL_law_672 dL_law_674 dL_law_677 dL_law_678 dL_law_679 dL_law_680 dL_law_682 dL_law_683 dL_law_684 dL_law_689 (by decide) (fun Hp locs ls hP hD hS hl => ?_)
    exact kk n z zh nx kp hi H T nb r pa ke (upd mr 2 (kVote z n p1)) hs fo (lwI_up hI (by omega) (upd_ne (by decide)) (upd_ne (by decide))) Hp locs ls hP hD hS hl
set_option maxHeartbeats 4000000 in
set_option maxRecDepth 100000 in
theorem k_vote_b0 {p : Program} {l : Launch} {e : Env} {s : State} {m : MethodId} {below : List Frame} {meth : Method} {c : Code} {b L : Nat} {xs : Nat → Int32} {D : va_G} {cI cC cM cB cJ : ClassId} {ad t : Nat → Nat} {x : Nat} {h : Nat → Nat} {ah : Nat → Nat → Nat} {q : Nat → Nat} {o : Nat} {x4 : Int32} {C cells slots : Nat} {n : Nat} {z : Nat → Int32} {zh : Nat → Nat → Int32} {nx kp : Nat} {hi : Nat → Int32} {H : Nat → Nat → Int32} {T : Nat → Int32} {nb : Nat} {r pa ke mr : Nat → Int32} {hs : Int64} {fo : Nat → Int64} {Hp : Heap} {locs : List Loc} {ls : Array Slot} {p1 p2 p3 p4 : Int32} {d : Nat} (hd : d < n) (hz2 : z 10 = nI d) (hbf : p2 = 0) (E : lwEnv p s m meth c b L xs D cI cC cM cB cJ) (hfl : l.stackTraces = false) (hC : C + 10 ≤ 6000) (hC1 : 1 ≤ C) (hI : lwI C n z zh nx kp hi H T nb mr) (hcs : cells + 1 ≤ 601024 ∧ slots + 6 ≤ 7293034) (hP : va_P D vwCl (xw0 cI cC cM cB ad z t T (nI nb) r x h ah (nI nx) (nI kp) zh (outC cJ o fo :: moW cI q z hi T pa ke mr hs [])) Hp) (hD : va_D (fun q : Nat => s.heap.size ≤ q) (xw0 cI cC cM cB ad z t T (nI nb) r x h ah (nI nx) (nI kp) zh (outC cJ o fo :: moW cI q z hi T pa ke mr hs []))) (hS : va_S (fun q : Nat => s.heap.size ≤ q) s.heap Hp locs) (hl : lv_has ls 9 (lwL b x o q x4)) (sc : lwScr xs L x4 p1 p2 p3 p4) (kk : lwK p l e s m below meth c b D cI cC cM cB cJ ad t x h ah q o x4 (C + 10) (cells + 1) (slots + 6)) : W p l e room_1 s m #[Value.ref b] below meth c Hp locs cells slots (lw_Z below #[Value.ref b] s) (F0 m 608 ls []) := by
  obtain ⟨⟨hx, hb, hr, hml, hown, hts, hX, hbl, hlocks, hgv⟩, hCn, hJ, hN, hK⟩ := id E
  have S : CallFix p m c code 9 s #[Value.ref b] TT RL := ⟨hx, hb, hml, hown, fun w hw => hts w (List.mem_filter.mp hw).1⟩
  have hA : ∀ q : Nat, s.heap.size ≤ q → (fun q : Nat => s.heap.size ≤ q) q := fun _ h => h
  have hbA : ¬ (fun q : Nat => s.heap.size ≤ q) b := Nat.not_le.mpr hbl
  obtain ⟨hR, hH, hnb, hT, hm0, hm1⟩ := id hI
  obtain ⟨hn, hz, hB, -⟩ := id hR
  obtain ⟨hnx, hkp, hBh, -⟩ := id hH
  obtain ⟨s1, s2, s3, s4⟩ := sc
  refine lv_aload_n hx hb dL_law_608 rfl (lv_at hl 1 rfl) ?_
  refine lv_aload_n hx hb dL_law_609 rfl (lv_at hl 0 rfl) ?_
  refine lv_iload hx hb dL_law_610 (lv_at hl 4 rfl) ?_
  refine lv_iconst (v := 1) hx hb dL_law_612 (by decide) ?_
  refine lv_iadd hx hb dL_law_613 ?_
  refine z_sld hx hb hX hbl hbA hS s1 dL_law_614 ?_
  refine lv_aload_n hx hb dL_law_615 rfl (lv_at hl 0 rfl) ?_
  refine lv_iload hx hb dL_law_616 (lv_at hl 4 rfl) ?_
  refine lv_iconst (v := 2) hx hb dL_law_618 (by decide) ?_
  refine lv_iadd hx hb dL_law_619 ?_
  refine z_sld hx hb hX hbl hbA hS s2 dL_law_620 ?_
  refine lv_if_eq (tgt := 628) hx hb dL_law_621 (by decide) (fun _ => ?_) (fun q9 => absurd hbf q9)
  refine lv_iconst (v := 0) hx hb dL_law_628 (by decide) ?_
  refine lv_aload_n hx hb dL_law_629 rfl (lv_at hl 3 rfl) ?_
  refine z_callH (n := 4) (As := [.ref x, .int p1, .int 0, .ref o]) (rest := []) S (c_L_vote_b (fo := fo) (wr := moW cI q z hi T pa ke mr hs []) hfl hn hz hnx hkp hB hd hz2 p1 0) qm_L_118 ⟨qt_L_vote, qn_L, qw_L_vote⟩ ⟨by decide, by decide, by decide +kernel⟩ ⟨Nat.le_of_ble_eq_true rfl, Nat.le_of_ble_eq_true rfl⟩ rfl rfl hCn hJ hN hK hP hD hS hA rfl hl.1 rfl (Nat.le_of_ble_eq_true rfl) dL_law_630 hcs (fun Hp locs hP hD hS => ?_)
  refine lv_istore (lv' := (5, .int (kVote z n p1)) :: lwL b x o q x4) hx hb dL_law_633 hl (by decide) rfl (fun ls hl => ?_)
  by_cases hk : (kVote z n p1) = 0
  · rw [if_pos hk] at hP hD
    obtain ⟨v9, hv9⟩ : ∃ v9 : Int32, v9 = (if (0 : Int32) = 0 then 2 else 1) := ⟨_, rfl⟩
    rw [← hv9] at hP hD
    obtain ⟨a1, a2⟩ := k0_vote hk
    obtain ⟨hj, ej⟩ := mP_j hn a1
    have o9 := ok_vote (bf := 0) (by omega) hR hd hz2 (show cl p1 < 8 by omega) a2
    obtain ⟨hZ, sA, sR⟩ := ok_settle (by omega) o9 hd ((vt_10 (by omega)).trans hz2)
    have M := c_X6_vote_b (l := l) (D := D) (cI := cI) (cC := cC) (cM := cM) (cB := cB) (cJ := cJ) (q := q) (hi := hi) (tx := T) (pa := pa) (ke := ke) (mr := mr) (hs := hs) (wr := xw0 cI cC cM cB ad (setZ (upd z (142 + cl p1) v9) n d) t T (nI nb) r x h ah (nI ((nx + 1) % 6)) (nI (min (kp + 1) 6)) (zup zh nx z) [outC cJ o (vp_updL fo 0 (setR (upd z (142 + cl p1) v9) n).toInt64)]) hn hz hkp hm0 hB (rOK_vote hR) hd hz2 p1 0
    simp only [xwf, xv, if_pos hk] at M
    refine lv_aload_n hx hb dL_law_635 rfl (lv_at hl 3 rfl) ?_
    refine lv_aload_n hx hb dL_law_636 rfl (lv_at hl 1 rfl) ?_
    refine lv_iload hx hb dL_law_637 (lv_at hl 5 rfl) ?_
    refine lv_iconst (v := 1) hx hb dL_law_639 (by decide) ?_
    refine lv_iadd hx hb dL_law_640 ?_
    refine z_sld hx hb hX hbl hbA hS s1 dL_law_641 ?_
    refine lv_aload_n hx hb dL_law_642 rfl (lv_at hl 1 rfl) ?_
    refine lv_iload hx hb dL_law_643 (lv_at hl 5 rfl) ?_
    refine lv_iconst (v := 2) hx hb dL_law_645 (by decide) ?_
    refine lv_iadd hx hb dL_law_646 ?_
    refine z_sld hx hb hX hbl hbA hS s2 dL_law_647 ?_
    refine lv_if_eq (tgt := 655) hx hb dL_law_648 (by decide) (fun _ => ?_) (fun q9 => absurd hbf q9)
    refine lv_iconst (v := 0) hx hb dL_law_655 (by decide) ?_
    refine z_callV1 (n := 2) (As := [.int p1, .int 0]) (rest := []) S (zM_perm lw_perm lw_perm.symm M) qm_L_121 ⟨⟨qi_X6_vote, qs_X6_vote, qn_X6, qc_X6_vote⟩, rfl, by decide, by decide, by decide +kernel⟩ ⟨Nat.le_of_ble_eq_true rfl, Nat.le_of_ble_eq_true rfl⟩ rfl rfl hN hK hP hD hS hA 140 rfl rfl rfl hl.1 rfl (Nat.le_of_ble_eq_true rfl) dL_law_656 hcs (fun Hp locs hP hD hS => ?_)
    have hKt : (upd (upd mr 2 0) 0 (nI (min (kp + 1) 6))) 2 = (kVote z n p1) := by rw [hk]; exact (upd_ne (by decide)).trans (upd_eq rfl)
    have hKv : (kVote z n p1) = 0 → (vp_updL fo 0 (setR (upd z (142 + cl p1) v9) n).toInt64) 0 = ((lkR (qz_vote z (cl p1) 0) n d)).toInt64 := fun _ => pk_uLs.trans (congrArg Int32.toInt64 (show setR (upd z (142 + cl p1) v9) n = (lkR (qz_vote z (cl p1) 0) n d) from by rw [hv9]; exact (setR_c hn vt_c).trans (sR.trans (lkR_c hn (by omega) vt_m).symm)))
    refine lw_tail (o := o) (q := q) (fo := (vp_updL fo 0 (setR (upd z (142 + cl p1) v9) n).toInt64)) S (zM_perm lw_perm lw_perm.symm (c_X6_thrown (q := q) (mr := (upd (upd mr 2 0) 0 (nI (min (kp + 1) 6)))))) ⟨Nat.le_of_ble_eq_true rfl, Nat.le_of_ble_eq_true rfl⟩ hN hK hP hD hS hA rfl rfl hcs hl hKt hKv dL_law_659 dL_law_661 dL_law_662 dL_law_665 dL_law_667 dL_law_672 dL_law_674 dL_law_677 dL_law_678 dL_law_679 dL_law_680 dL_law_682 dL_law_683 dL_law_684 dL_law_689 (by decide) (fun Hp locs ls hP hD hS hl => ?_)
    have hcC : eqC (setZ (upd z (142 + cl p1) v9) n d) (mrg (setZ (vtB z (cl p1) 0) n d) (lkZ (vtB z (cl p1) 0) n d)) := by rw [hv9]; exact fun k hk h12 h13 => (setZ_c hn (by omega) vt_c k hk h12 h13).trans (mrg_c h12 h13).symm
    have hmM : eqM (lkZ (qz_vote z (cl p1) 0) n d) (mrg (setZ (vtB z (cl p1) 0) n d) (lkZ (vtB z (cl p1) 0) n d)) := fun k hk => (lkZ_c hn (by omega) vt_m k hk).trans (mrg_m sA k hk)
    rw [lw_eq hcC hmM] at hP hD
    exact kk n (mrg (setZ (vtB z (cl p1) 0) n d) (lkZ (vtB z (cl p1) 0) n d)) (zup zh nx z) ((nx + 1) % 6) (min (kp + 1) 6) (svH hi z kp) (svR H z kp) T nb r pa ke (upd (upd mr 2 0) 0 (nI (min (kp + 1) 6))) hs (vp_updL fo 0 (setR (upd z (142 + cl p1) v9) n).toInt64) (lwI_save hI (by omega) hZ (upd_eq rfl) ((upd_ne (by decide)).trans (upd_ne (by decide)))) Hp locs ls hP hD hS hl
  · rw [if_neg hk] at hP hD
    have M := c_X6_vote_b (l := l) (D := D) (cI := cI) (cC := cC) (cM := cM) (cB := cB) (cJ := cJ) (q := q) (hi := hi) (tx := T) (pa := pa) (ke := ke) (mr := mr) (hs := hs) (wr := xw0 cI cC cM cB ad z t T (nI nb) r x h ah (nI nx) (nI kp) zh [outC cJ o fo]) hn hz hkp hm0 hB (rOK_vote hR) hd hz2 p1 0
    simp only [xwf, xv, if_neg hk] at M
    refine lv_aload_n hx hb dL_law_635 rfl (lv_at hl 3 rfl) ?_
    refine lv_aload_n hx hb dL_law_636 rfl (lv_at hl 1 rfl) ?_
    refine lv_iload hx hb dL_law_637 (lv_at hl 5 rfl) ?_
    refine lv_iconst (v := 1) hx hb dL_law_639 (by decide) ?_
    refine lv_iadd hx hb dL_law_640 ?_
    refine z_sld hx hb hX hbl hbA hS s1 dL_law_641 ?_
    refine lv_aload_n hx hb dL_law_642 rfl (lv_at hl 1 rfl) ?_
    refine lv_iload hx hb dL_law_643 (lv_at hl 5 rfl) ?_
    refine lv_iconst (v := 2) hx hb dL_law_645 (by decide) ?_
    refine lv_iadd hx hb dL_law_646 ?_
    refine z_sld hx hb hX hbl hbA hS s2 dL_law_647 ?_
    refine lv_if_eq (tgt := 655) hx hb dL_law_648 (by decide) (fun _ => ?_) (fun q9 => absurd hbf q9)
    refine lv_iconst (v := 0) hx hb dL_law_655 (by decide) ?_
    refine z_callV1 (n := 2) (As := [.int p1, .int 0]) (rest := []) S (zM_perm lw_perm lw_perm.symm M) qm_L_121 ⟨⟨qi_X6_vote, qs_X6_vote, qn_X6, qc_X6_vote⟩, rfl, by decide, by decide, by decide +kernel⟩ ⟨Nat.le_of_ble_eq_true rfl, Nat.le_of_ble_eq_true rfl⟩ rfl rfl hN hK hP hD hS hA 140 rfl rfl rfl hl.1 rfl (Nat.le_of_ble_eq_true rfl) dL_law_656 hcs (fun Hp locs hP hD hS => ?_)
    have hKt : (upd mr 2 (kVote z n p1)) 2 = (kVote z n p1) := upd_eq rfl
    have hKv : (kVote z n p1) = 0 → fo 0 = (0 : Int32).toInt64 := fun h9 => absurd h9 hk
    refine lw_tail (o := o) (q := q) (fo := fo) S (zM_perm lw_perm lw_perm.symm (c_X6_thrown (q := q) (mr := (upd mr 2 (kVote z n p1))))) ⟨Nat.le_of_ble_eq_true rfl, Nat.le_of_ble_eq_true rfl⟩ hN hK hP hD hS hA rfl rfl hcs hl hKt hKv dL_law_659 dL_law_661 dL_law_662 dL_law_665 dL_law_667 dL_law_672 dL_law_674 dL_law_677 dL_law_678 dL_law_679 dL_law_680 dL_law_682 dL_law_683 dL_law_684 dL_law_689 (by decide) (fun Hp locs ls hP hD hS hl => ?_)
    exact kk n z zh nx kp hi H T nb r pa ke (upd mr 2 (kVote z n p1)) hs fo (lwI_up hI (by omega) (upd_ne (by decide)) (upd_ne (by decide))) Hp locs ls hP hD hS hl
set_option maxHeartbeats 4000000 in
set_option maxRecDepth 100000 in
theorem k_vote_b1 {p : Program} {l : Launch} {e : Env} {s : State} {m : MethodId} {below : List Frame} {meth : Method} {c : Code} {b L : Nat} {xs : Nat → Int32} {D : va_G} {cI cC cM cB cJ : ClassId} {ad t : Nat → Nat} {x : Nat} {h : Nat → Nat} {ah : Nat → Nat → Nat} {q : Nat → Nat} {o : Nat} {x4 : Int32} {C cells slots : Nat} {n : Nat} {z : Nat → Int32} {zh : Nat → Nat → Int32} {nx kp : Nat} {hi : Nat → Int32} {H : Nat → Nat → Int32} {T : Nat → Int32} {nb : Nat} {r pa ke mr : Nat → Int32} {hs : Int64} {fo : Nat → Int64} {Hp : Heap} {locs : List Loc} {ls : Array Slot} {p1 p2 p3 p4 : Int32} {d : Nat} (hd : d < n) (hz2 : z 10 = nI d) (hbf : ¬ p2 = 0) (E : lwEnv p s m meth c b L xs D cI cC cM cB cJ) (hfl : l.stackTraces = false) (hC : C + 10 ≤ 6000) (hC1 : 1 ≤ C) (hI : lwI C n z zh nx kp hi H T nb mr) (hcs : cells + 1 ≤ 601024 ∧ slots + 6 ≤ 7293034) (hP : va_P D vwCl (xw0 cI cC cM cB ad z t T (nI nb) r x h ah (nI nx) (nI kp) zh (outC cJ o fo :: moW cI q z hi T pa ke mr hs [])) Hp) (hD : va_D (fun q : Nat => s.heap.size ≤ q) (xw0 cI cC cM cB ad z t T (nI nb) r x h ah (nI nx) (nI kp) zh (outC cJ o fo :: moW cI q z hi T pa ke mr hs []))) (hS : va_S (fun q : Nat => s.heap.size ≤ q) s.heap Hp locs) (hl : lv_has ls 9 (lwL b x o q x4)) (sc : lwScr xs L x4 p1 p2 p3 p4) (kk : lwK p l e s m below meth c b D cI cC cM cB cJ ad t x h ah q o x4 (C + 10) (cells + 1) (slots + 6)) : W p l e room_1 s m #[Value.ref b] below meth c Hp locs cells slots (lw_Z below #[Value.ref b] s) (F0 m 608 ls []) := by
  obtain ⟨⟨hx, hb, hr, hml, hown, hts, hX, hbl, hlocks, hgv⟩, hCn, hJ, hN, hK⟩ := id E
  have S : CallFix p m c code 9 s #[Value.ref b] TT RL := ⟨hx, hb, hml, hown, fun w hw => hts w (List.mem_filter.mp hw).1⟩
  have hA : ∀ q : Nat, s.heap.size ≤ q → (fun q : Nat => s.heap.size ≤ q) q := fun _ h => h
  have hbA : ¬ (fun q : Nat => s.heap.size ≤ q) b := Nat.not_le.mpr hbl
  obtain ⟨hR, hH, hnb, hT, hm0, hm1⟩ := id hI
  obtain ⟨hn, hz, hB, -⟩ := id hR
  obtain ⟨hnx, hkp, hBh, -⟩ := id hH
  obtain ⟨s1, s2, s3, s4⟩ := sc
  refine lv_aload_n hx hb dL_law_608 rfl (lv_at hl 1 rfl) ?_
  refine lv_aload_n hx hb dL_law_609 rfl (lv_at hl 0 rfl) ?_
  refine lv_iload hx hb dL_law_610 (lv_at hl 4 rfl) ?_
  refine lv_iconst (v := 1) hx hb dL_law_612 (by decide) ?_
  refine lv_iadd hx hb dL_law_613 ?_
  refine z_sld hx hb hX hbl hbA hS s1 dL_law_614 ?_
  refine lv_aload_n hx hb dL_law_615 rfl (lv_at hl 0 rfl) ?_
  refine lv_iload hx hb dL_law_616 (lv_at hl 4 rfl) ?_
  refine lv_iconst (v := 2) hx hb dL_law_618 (by decide) ?_
  refine lv_iadd hx hb dL_law_619 ?_
  refine z_sld hx hb hX hbl hbA hS s2 dL_law_620 ?_
  refine lv_if_eq (tgt := 628) hx hb dL_law_621 (by decide) (fun q9 => absurd q9 hbf) (fun _ => ?_)
  refine lv_iconst (v := 1) hx hb dL_law_624 (by decide) ?_
  refine lv_goto (tgt := 629) hx hb dL_law_625 (by decide) ?_
  refine lv_aload_n hx hb dL_law_629 rfl (lv_at hl 3 rfl) ?_
  refine z_callH (n := 4) (As := [.ref x, .int p1, .int 1, .ref o]) (rest := []) S (c_L_vote_b (fo := fo) (wr := moW cI q z hi T pa ke mr hs []) hfl hn hz hnx hkp hB hd hz2 p1 1) qm_L_118 ⟨qt_L_vote, qn_L, qw_L_vote⟩ ⟨by decide, by decide, by decide +kernel⟩ ⟨Nat.le_of_ble_eq_true rfl, Nat.le_of_ble_eq_true rfl⟩ rfl rfl hCn hJ hN hK hP hD hS hA rfl hl.1 rfl (Nat.le_of_ble_eq_true rfl) dL_law_630 hcs (fun Hp locs hP hD hS => ?_)
  refine lv_istore (lv' := (5, .int (kVote z n p1)) :: lwL b x o q x4) hx hb dL_law_633 hl (by decide) rfl (fun ls hl => ?_)
  by_cases hk : (kVote z n p1) = 0
  · rw [if_pos hk] at hP hD
    obtain ⟨v9, hv9⟩ : ∃ v9 : Int32, v9 = (if (1 : Int32) = 0 then 2 else 1) := ⟨_, rfl⟩
    rw [← hv9] at hP hD
    obtain ⟨a1, a2⟩ := k0_vote hk
    obtain ⟨hj, ej⟩ := mP_j hn a1
    have o9 := ok_vote (bf := 1) (by omega) hR hd hz2 (show cl p1 < 8 by omega) a2
    obtain ⟨hZ, sA, sR⟩ := ok_settle (by omega) o9 hd ((vt_10 (by omega)).trans hz2)
    have M := c_X6_vote_b (l := l) (D := D) (cI := cI) (cC := cC) (cM := cM) (cB := cB) (cJ := cJ) (q := q) (hi := hi) (tx := T) (pa := pa) (ke := ke) (mr := mr) (hs := hs) (wr := xw0 cI cC cM cB ad (setZ (upd z (142 + cl p1) v9) n d) t T (nI nb) r x h ah (nI ((nx + 1) % 6)) (nI (min (kp + 1) 6)) (zup zh nx z) [outC cJ o (vp_updL fo 0 (setR (upd z (142 + cl p1) v9) n).toInt64)]) hn hz hkp hm0 hB (rOK_vote hR) hd hz2 p1 1
    simp only [xwf, xv, if_pos hk] at M
    refine lv_aload_n hx hb dL_law_635 rfl (lv_at hl 3 rfl) ?_
    refine lv_aload_n hx hb dL_law_636 rfl (lv_at hl 1 rfl) ?_
    refine lv_iload hx hb dL_law_637 (lv_at hl 5 rfl) ?_
    refine lv_iconst (v := 1) hx hb dL_law_639 (by decide) ?_
    refine lv_iadd hx hb dL_law_640 ?_
    refine z_sld hx hb hX hbl hbA hS s1 dL_law_641 ?_
    refine lv_aload_n hx hb dL_law_642 rfl (lv_at hl 1 rfl) ?_
    refine lv_iload hx hb dL_law_643 (lv_at hl 5 rfl) ?_
    refine lv_iconst (v := 2) hx hb dL_law_645 (by decide) ?_
    refine lv_iadd hx hb dL_law_646 ?_
    refine z_sld hx hb hX hbl hbA hS s2 dL_law_647 ?_
    refine lv_if_eq (tgt := 655) hx hb dL_law_648 (by decide) (fun q9 => absurd q9 hbf) (fun _ => ?_)
    refine lv_iconst (v := 1) hx hb dL_law_651 (by decide) ?_
    refine lv_goto (tgt := 656) hx hb dL_law_652 (by decide) ?_
    refine z_callV1 (n := 2) (As := [.int p1, .int 1]) (rest := []) S (zM_perm lw_perm lw_perm.symm M) qm_L_121 ⟨⟨qi_X6_vote, qs_X6_vote, qn_X6, qc_X6_vote⟩, rfl, by decide, by decide, by decide +kernel⟩ ⟨Nat.le_of_ble_eq_true rfl, Nat.le_of_ble_eq_true rfl⟩ rfl rfl hN hK hP hD hS hA 140 rfl rfl rfl hl.1 rfl (Nat.le_of_ble_eq_true rfl) dL_law_656 hcs (fun Hp locs hP hD hS => ?_)
    have hKt : (upd (upd mr 2 0) 0 (nI (min (kp + 1) 6))) 2 = (kVote z n p1) := by rw [hk]; exact (upd_ne (by decide)).trans (upd_eq rfl)
    have hKv : (kVote z n p1) = 0 → (vp_updL fo 0 (setR (upd z (142 + cl p1) v9) n).toInt64) 0 = ((lkR (qz_vote z (cl p1) 1) n d)).toInt64 := fun _ => pk_uLs.trans (congrArg Int32.toInt64 (show setR (upd z (142 + cl p1) v9) n = (lkR (qz_vote z (cl p1) 1) n d) from by rw [hv9]; exact (setR_c hn vt_c).trans (sR.trans (lkR_c hn (by omega) vt_m).symm)))
    refine lw_tail (o := o) (q := q) (fo := (vp_updL fo 0 (setR (upd z (142 + cl p1) v9) n).toInt64)) S (zM_perm lw_perm lw_perm.symm (c_X6_thrown (q := q) (mr := (upd (upd mr 2 0) 0 (nI (min (kp + 1) 6)))))) ⟨Nat.le_of_ble_eq_true rfl, Nat.le_of_ble_eq_true rfl⟩ hN hK hP hD hS hA rfl rfl hcs hl hKt hKv dL_law_659 dL_law_661 dL_law_662 dL_law_665 dL_law_667 dL_law_672 dL_law_674 dL_law_677 dL_law_678 dL_law_679 dL_law_680 dL_law_682 dL_law_683 dL_law_684 dL_law_689 (by decide) (fun Hp locs ls hP hD hS hl => ?_)
    have hcC : eqC (setZ (upd z (142 + cl p1) v9) n d) (mrg (setZ (vtB z (cl p1) 1) n d) (lkZ (vtB z (cl p1) 1) n d)) := by rw [hv9]; exact fun k hk h12 h13 => (setZ_c hn (by omega) vt_c k hk h12 h13).trans (mrg_c h12 h13).symm
    have hmM : eqM (lkZ (qz_vote z (cl p1) 1) n d) (mrg (setZ (vtB z (cl p1) 1) n d) (lkZ (vtB z (cl p1) 1) n d)) := fun k hk => (lkZ_c hn (by omega) vt_m k hk).trans (mrg_m sA k hk)
    rw [lw_eq hcC hmM] at hP hD
    exact kk n (mrg (setZ (vtB z (cl p1) 1) n d) (lkZ (vtB z (cl p1) 1) n d)) (zup zh nx z) ((nx + 1) % 6) (min (kp + 1) 6) (svH hi z kp) (svR H z kp) T nb r pa ke (upd (upd mr 2 0) 0 (nI (min (kp + 1) 6))) hs (vp_updL fo 0 (setR (upd z (142 + cl p1) v9) n).toInt64) (lwI_save hI (by omega) hZ (upd_eq rfl) ((upd_ne (by decide)).trans (upd_ne (by decide)))) Hp locs ls hP hD hS hl
  · rw [if_neg hk] at hP hD
    have M := c_X6_vote_b (l := l) (D := D) (cI := cI) (cC := cC) (cM := cM) (cB := cB) (cJ := cJ) (q := q) (hi := hi) (tx := T) (pa := pa) (ke := ke) (mr := mr) (hs := hs) (wr := xw0 cI cC cM cB ad z t T (nI nb) r x h ah (nI nx) (nI kp) zh [outC cJ o fo]) hn hz hkp hm0 hB (rOK_vote hR) hd hz2 p1 1
    simp only [xwf, xv, if_neg hk] at M
    refine lv_aload_n hx hb dL_law_635 rfl (lv_at hl 3 rfl) ?_
    refine lv_aload_n hx hb dL_law_636 rfl (lv_at hl 1 rfl) ?_
    refine lv_iload hx hb dL_law_637 (lv_at hl 5 rfl) ?_
    refine lv_iconst (v := 1) hx hb dL_law_639 (by decide) ?_
    refine lv_iadd hx hb dL_law_640 ?_
    refine z_sld hx hb hX hbl hbA hS s1 dL_law_641 ?_
    refine lv_aload_n hx hb dL_law_642 rfl (lv_at hl 1 rfl) ?_
    refine lv_iload hx hb dL_law_643 (lv_at hl 5 rfl) ?_
    refine lv_iconst (v := 2) hx hb dL_law_645 (by decide) ?_
    refine lv_iadd hx hb dL_law_646 ?_
    refine z_sld hx hb hX hbl hbA hS s2 dL_law_647 ?_
    refine lv_if_eq (tgt := 655) hx hb dL_law_648 (by decide) (fun q9 => absurd q9 hbf) (fun _ => ?_)
    refine lv_iconst (v := 1) hx hb dL_law_651 (by decide) ?_
    refine lv_goto (tgt := 656) hx hb dL_law_652 (by decide) ?_
    refine z_callV1 (n := 2) (As := [.int p1, .int 1]) (rest := []) S (zM_perm lw_perm lw_perm.symm M) qm_L_121 ⟨⟨qi_X6_vote, qs_X6_vote, qn_X6, qc_X6_vote⟩, rfl, by decide, by decide, by decide +kernel⟩ ⟨Nat.le_of_ble_eq_true rfl, Nat.le_of_ble_eq_true rfl⟩ rfl rfl hN hK hP hD hS hA 140 rfl rfl rfl hl.1 rfl (Nat.le_of_ble_eq_true rfl) dL_law_656 hcs (fun Hp locs hP hD hS => ?_)
    have hKt : (upd mr 2 (kVote z n p1)) 2 = (kVote z n p1) := upd_eq rfl
    have hKv : (kVote z n p1) = 0 → fo 0 = (0 : Int32).toInt64 := fun h9 => absurd h9 hk
    refine lw_tail (o := o) (q := q) (fo := fo) S (zM_perm lw_perm lw_perm.symm (c_X6_thrown (q := q) (mr := (upd mr 2 (kVote z n p1))))) ⟨Nat.le_of_ble_eq_true rfl, Nat.le_of_ble_eq_true rfl⟩ hN hK hP hD hS hA rfl rfl hcs hl hKt hKv dL_law_659 dL_law_661 dL_law_662 dL_law_665 dL_law_667 dL_law_672 dL_law_674 dL_law_677 dL_law_678 dL_law_679 dL_law_680 dL_law_682 dL_law_683 dL_law_684 dL_law_689 (by decide) (fun Hp locs ls hP hD hS hl => ?_)
    exact kk n z zh nx kp hi H T nb r pa ke (upd mr 2 (kVote z n p1)) hs fo (lwI_up hI (by omega) (upd_ne (by decide)) (upd_ne (by decide))) Hp locs ls hP hD hS hl
set_option maxHeartbeats 4000000 in
set_option maxRecDepth 100000 in
theorem k_takeBack {p : Program} {l : Launch} {e : Env} {s : State} {m : MethodId} {below : List Frame} {meth : Method} {c : Code} {b L : Nat} {xs : Nat → Int32} {D : va_G} {cI cC cM cB cJ : ClassId} {ad t : Nat → Nat} {x : Nat} {h : Nat → Nat} {ah : Nat → Nat → Nat} {q : Nat → Nat} {o : Nat} {x4 : Int32} {C cells slots : Nat} {n : Nat} {z : Nat → Int32} {zh : Nat → Nat → Int32} {nx kp : Nat} {hi : Nat → Int32} {H : Nat → Nat → Int32} {T : Nat → Int32} {nb : Nat} {r pa ke mr : Nat → Int32} {hs : Int64} {fo : Nat → Int64} {Hp : Heap} {locs : List Loc} {ls : Array Slot} {p1 p2 p3 p4 : Int32}  (E : lwEnv p s m meth c b L xs D cI cC cM cB cJ) (hfl : l.stackTraces = false) (hC : C + 10 ≤ 6000) (hC1 : 1 ≤ C) (hI : lwI C n z zh nx kp hi H T nb mr) (hcs : cells + 1 ≤ 601024 ∧ slots + 6 ≤ 7293034) (hP : va_P D vwCl (xw0 cI cC cM cB ad z t T (nI nb) r x h ah (nI nx) (nI kp) zh (outC cJ o fo :: moW cI q z hi T pa ke mr hs [])) Hp) (hD : va_D (fun q : Nat => s.heap.size ≤ q) (xw0 cI cC cM cB ad z t T (nI nb) r x h ah (nI nx) (nI kp) zh (outC cJ o fo :: moW cI q z hi T pa ke mr hs []))) (hS : va_S (fun q : Nat => s.heap.size ≤ q) s.heap Hp locs) (hl : lv_has ls 9 (lwL b x o q x4)) (sc : lwScr xs L x4 p1 p2 p3 p4) (kk : lwK p l e s m below meth c b D cI cC cM cB cJ ad t x h ah q o x4 (C + 10) (cells + 1) (slots + 6)) : W p l e room_1 s m #[Value.ref b] below meth c Hp locs cells slots (lw_Z below #[Value.ref b] s) (F0 m 692 ls []) := by
  obtain ⟨⟨hx, hb, hr, hml, hown, hts, hX, hbl, hlocks, hgv⟩, hCn, hJ, hN, hK⟩ := id E
  have S : CallFix p m c code 9 s #[Value.ref b] TT RL := ⟨hx, hb, hml, hown, fun w hw => hts w (List.mem_filter.mp hw).1⟩
  have hA : ∀ q : Nat, s.heap.size ≤ q → (fun q : Nat => s.heap.size ≤ q) q := fun _ h => h
  have hbA : ¬ (fun q : Nat => s.heap.size ≤ q) b := Nat.not_le.mpr hbl
  obtain ⟨hR, hH, hnb, hT, hm0, hm1⟩ := id hI
  obtain ⟨hn, hz, hB, -⟩ := id hR
  obtain ⟨hnx, hkp, hBh, -⟩ := id hH
  obtain ⟨s1, s2, s3, s4⟩ := sc
  refine lv_aload_n hx hb dL_law_692 rfl (lv_at hl 1 rfl) ?_
  refine lv_aload_n hx hb dL_law_693 rfl (lv_at hl 3 rfl) ?_
  refine z_callH (n := 2) (As := [.ref x, .ref o]) (rest := []) S (c_L_takeBack (fo := fo) (wr := moW cI q z hi T pa ke mr hs []) hfl hn hz hnx hkp hB) qm_L_122 ⟨qt_L_takeBack, qn_L, qw_L_takeBack⟩ ⟨by decide, by decide, by decide +kernel⟩ ⟨Nat.le_of_ble_eq_true rfl, Nat.le_of_ble_eq_true rfl⟩ rfl rfl hCn hJ hN hK hP hD hS hA rfl hl.1 rfl (Nat.le_of_ble_eq_true rfl) dL_law_694 hcs (fun Hp locs hP hD hS => ?_)
  refine lv_istore (lv' := (5, .int (kTake z)) :: lwL b x o q x4) hx hb dL_law_697 hl (by decide) rfl (fun ls hl => ?_)
  by_cases hk : (kTake z) = 0
  · rw [if_pos hk] at hP hD
    obtain ⟨-, -, -, -, ht5, hv6, hs7, hm8⟩ := id hR
    have hZ : rOK (C + 10) n (mrg (dropZ z n) (endZ z)) := rOK_up (by omega) (ok_drop hn hz hB ht5 hs7 hm8 (vOK_far hv6 ht5))
    have M := c_X6_takeBack (l := l) (D := D) (cI := cI) (cC := cC) (cM := cM) (cB := cB) (cJ := cJ) (q := q) (hi := hi) (tx := T) (pa := pa) (ke := ke) (mr := mr) (hs := hs) (wr := xw0 cI cC cM cB ad (dropZ z n) t T (nI nb) r x h ah (nI ((nx + 1) % 6)) (nI (min (kp + 1) 6)) (zup zh nx z) [outC cJ o (vp_updL fo 0 ((cntB z 1 n + cntB z 2 n)).toInt64)]) hn hz hkp hm0 hB
    simp only [xwf, xv, if_pos hk] at M
    refine lv_aload_n hx hb dL_law_699 rfl (lv_at hl 3 rfl) ?_
    refine z_callV1 (n := 0) (As := []) (rest := []) S (zM_perm lw_perm lw_perm.symm M) qm_L_124 ⟨⟨qi_X6_takeBack, qs_X6_takeBack, qn_X6, qc_X6_takeBack⟩, rfl, by decide, by decide, by decide +kernel⟩ ⟨Nat.le_of_ble_eq_true rfl, Nat.le_of_ble_eq_true rfl⟩ rfl rfl hN hK hP hD hS hA 140 rfl rfl rfl hl.1 rfl (Nat.le_of_ble_eq_true rfl) dL_law_700 hcs (fun Hp locs hP hD hS => ?_)
    have hKt : (upd (upd mr 2 0) 0 (nI (min (kp + 1) 6))) 2 = (kTake z) := by rw [hk]; exact (upd_ne (by decide)).trans (upd_eq rfl)
    have hKv : (kTake z) = 0 → (vp_updL fo 0 ((cntB z 1 n + cntB z 2 n)).toInt64) 0 = ((oneP (z 12 ||| z 13) 8)).toInt64 := fun _ => pk_uLs.trans (congrArg Int32.toInt64 (show (cntB z 1 n + cntB z 2 n) = (oneP (z 12 ||| z 13) 8) from (take_ans hR).symm))
    refine lw_tail (o := o) (q := q) (fo := (vp_updL fo 0 ((cntB z 1 n + cntB z 2 n)).toInt64)) S (zM_perm lw_perm lw_perm.symm (c_X6_thrown (q := q) (mr := (upd (upd mr 2 0) 0 (nI (min (kp + 1) 6)))))) ⟨Nat.le_of_ble_eq_true rfl, Nat.le_of_ble_eq_true rfl⟩ hN hK hP hD hS hA rfl rfl hcs hl hKt hKv dL_law_703 dL_law_705 dL_law_706 dL_law_709 dL_law_711 dL_law_716 dL_law_718 dL_law_721 dL_law_722 dL_law_723 dL_law_724 dL_law_726 dL_law_727 dL_law_728 dL_law_733 (by decide) (fun Hp locs ls hP hD hS hl => ?_)
    have hcC : eqC (dropZ z n) (mrg (dropZ z n) (endZ z)) := fun k _ h12 h13 => (mrg_c h12 h13).symm
    have hmM : eqM (endZ z) (mrg (dropZ z n) (endZ z)) := mrg_m ag_drop
    rw [lw_eq hcC hmM] at hP hD
    exact kk n (mrg (dropZ z n) (endZ z)) (zup zh nx z) ((nx + 1) % 6) (min (kp + 1) 6) (svH hi z kp) (svR H z kp) T nb r pa ke (upd (upd mr 2 0) 0 (nI (min (kp + 1) 6))) hs (vp_updL fo 0 ((cntB z 1 n + cntB z 2 n)).toInt64) (lwI_save hI (by omega) hZ (upd_eq rfl) ((upd_ne (by decide)).trans (upd_ne (by decide)))) Hp locs ls hP hD hS hl
  · rw [if_neg hk] at hP hD
    have M := c_X6_takeBack (l := l) (D := D) (cI := cI) (cC := cC) (cM := cM) (cB := cB) (cJ := cJ) (q := q) (hi := hi) (tx := T) (pa := pa) (ke := ke) (mr := mr) (hs := hs) (wr := xw0 cI cC cM cB ad z t T (nI nb) r x h ah (nI nx) (nI kp) zh [outC cJ o fo]) hn hz hkp hm0 hB
    simp only [xwf, xv, if_neg hk] at M
    refine lv_aload_n hx hb dL_law_699 rfl (lv_at hl 3 rfl) ?_
    refine z_callV1 (n := 0) (As := []) (rest := []) S (zM_perm lw_perm lw_perm.symm M) qm_L_124 ⟨⟨qi_X6_takeBack, qs_X6_takeBack, qn_X6, qc_X6_takeBack⟩, rfl, by decide, by decide, by decide +kernel⟩ ⟨Nat.le_of_ble_eq_true rfl, Nat.le_of_ble_eq_true rfl⟩ rfl rfl hN hK hP hD hS hA 140 rfl rfl rfl hl.1 rfl (Nat.le_of_ble_eq_true rfl) dL_law_700 hcs (fun Hp locs hP hD hS => ?_)
    have hKt : (upd mr 2 (kTake z)) 2 = (kTake z) := upd_eq rfl
    have hKv : (kTake z) = 0 → fo 0 = (0 : Int32).toInt64 := fun h9 => absurd h9 hk
    refine lw_tail (o := o) (q := q) (fo := fo) S (zM_perm lw_perm lw_perm.symm (c_X6_thrown (q := q) (mr := (upd mr 2 (kTake z))))) ⟨Nat.le_of_ble_eq_true rfl, Nat.le_of_ble_eq_true rfl⟩ hN hK hP hD hS hA rfl rfl hcs hl hKt hKv dL_law_703 dL_law_705 dL_law_706 dL_law_709 dL_law_711 dL_law_716 dL_law_718 dL_law_721 dL_law_722 dL_law_723 dL_law_724 dL_law_726 dL_law_727 dL_law_728 dL_law_733 (by decide) (fun Hp locs ls hP hD hS hl => ?_)
    exact kk n z zh nx kp hi H T nb r pa ke (upd mr 2 (kTake z)) hs fo (lwI_up hI (by omega) (upd_ne (by decide)) (upd_ne (by decide))) Hp locs ls hP hD hS hl
set_option maxHeartbeats 4000000 in
set_option maxRecDepth 100000 in
theorem k_append {p : Program} {l : Launch} {e : Env} {s : State} {m : MethodId} {below : List Frame} {meth : Method} {c : Code} {b L : Nat} {xs : Nat → Int32} {D : va_G} {cI cC cM cB cJ : ClassId} {ad t : Nat → Nat} {x : Nat} {h : Nat → Nat} {ah : Nat → Nat → Nat} {q : Nat → Nat} {o : Nat} {x4 : Int32} {C cells slots : Nat} {n : Nat} {z : Nat → Int32} {zh : Nat → Nat → Int32} {nx kp : Nat} {hi : Nat → Int32} {H : Nat → Nat → Int32} {T : Nat → Int32} {nb : Nat} {r pa ke mr : Nat → Int32} {hs : Int64} {fo : Nat → Int64} {Hp : Heap} {locs : List Loc} {ls : Array Slot} {p1 p2 p3 p4 : Int32}  (E : lwEnv p s m meth c b L xs D cI cC cM cB cJ) (hfl : l.stackTraces = false) (hC : C + 10 ≤ 6000) (hC1 : 1 ≤ C) (hI : lwI C n z zh nx kp hi H T nb mr) (hcs : cells + 1 ≤ 601024 ∧ slots + 6 ≤ 7293034) (hP : va_P D vwCl (xw0 cI cC cM cB ad z t T (nI nb) r x h ah (nI nx) (nI kp) zh (outC cJ o fo :: moW cI q z hi T pa ke mr hs [])) Hp) (hD : va_D (fun q : Nat => s.heap.size ≤ q) (xw0 cI cC cM cB ad z t T (nI nb) r x h ah (nI nx) (nI kp) zh (outC cJ o fo :: moW cI q z hi T pa ke mr hs []))) (hS : va_S (fun q : Nat => s.heap.size ≤ q) s.heap Hp locs) (hl : lv_has ls 9 (lwL b x o q x4)) (sc : lwScr xs L x4 p1 p2 p3 p4) (kk : lwK p l e s m below meth c b D cI cC cM cB cJ ad t x h ah q o x4 (C + 10) (cells + 1) (slots + 6)) : W p l e room_1 s m #[Value.ref b] below meth c Hp locs cells slots (lw_Z below #[Value.ref b] s) (F0 m 736 ls []) := by
  obtain ⟨⟨hx, hb, hr, hml, hown, hts, hX, hbl, hlocks, hgv⟩, hCn, hJ, hN, hK⟩ := id E
  have S : CallFix p m c code 9 s #[Value.ref b] TT RL := ⟨hx, hb, hml, hown, fun w hw => hts w (List.mem_filter.mp hw).1⟩
  have hA : ∀ q : Nat, s.heap.size ≤ q → (fun q : Nat => s.heap.size ≤ q) q := fun _ h => h
  have hbA : ¬ (fun q : Nat => s.heap.size ≤ q) b := Nat.not_le.mpr hbl
  obtain ⟨hR, hH, hnb, hT, hm0, hm1⟩ := id hI
  obtain ⟨hn, hz, hB, -⟩ := id hR
  obtain ⟨hnx, hkp, hBh, -⟩ := id hH
  obtain ⟨s1, s2, s3, s4⟩ := sc
  refine lv_aload_n hx hb dL_law_736 rfl (lv_at hl 1 rfl) ?_
  refine lv_aload_n hx hb dL_law_737 rfl (lv_at hl 0 rfl) ?_
  refine lv_iload hx hb dL_law_738 (lv_at hl 4 rfl) ?_
  refine lv_iconst (v := 1) hx hb dL_law_740 (by decide) ?_
  refine lv_iadd hx hb dL_law_741 ?_
  refine z_sld hx hb hX hbl hbA hS s1 dL_law_742 ?_
  refine lv_aload_n hx hb dL_law_743 rfl (lv_at hl 3 rfl) ?_
  refine z_callH (n := 3) (As := [.ref x, .int p1, .ref o]) (rest := []) S (c_L_append (fo := fo) (wr := moW cI q z hi T pa ke mr hs []) hfl hnb p1) qm_L_125 ⟨qt_L_append, qn_L, qw_L_append⟩ ⟨by decide, by decide, by decide +kernel⟩ ⟨Nat.le_of_ble_eq_true rfl, Nat.le_of_ble_eq_true rfl⟩ rfl rfl hCn hJ hN hK hP hD hS hA rfl hl.1 rfl (Nat.le_of_ble_eq_true rfl) dL_law_744 hcs (fun Hp locs hP hD hS => ?_)
  refine lv_istore (lv' := (5, .int (kAppend nb p1)) :: lwL b x o q x4) hx hb dL_law_747 hl (by decide) rfl (fun ls hl => ?_)
  by_cases hk : (kAppend nb p1) = 0
  · rw [if_pos hk] at hP hD
    obtain ⟨a1, a2⟩ := k0_append hnb hk
    have M := c_X6_append (l := l) (D := D) (cI := cI) (cC := cC) (cM := cM) (cB := cB) (cJ := cJ) (q := q) (z := z) (hi := hi) (tx := T) (pa := pa) (ke := ke) (mr := mr) (hs := hs) (wr := xw0 cI cC cM cB ad z t (upd T nb p1) (nI (nb + 1)) r x h ah (nI nx) (nI kp) zh [outC cJ o (vp_updL fo 0 ((nI (nb + 1))).toInt64)]) hnb hm1 p1
    simp only [xwf, xv, if_pos hk] at M
    refine lv_aload_n hx hb dL_law_749 rfl (lv_at hl 3 rfl) ?_
    refine lv_aload_n hx hb dL_law_750 rfl (lv_at hl 1 rfl) ?_
    refine lv_iload hx hb dL_law_751 (lv_at hl 5 rfl) ?_
    refine lv_iconst (v := 1) hx hb dL_law_753 (by decide) ?_
    refine lv_iadd hx hb dL_law_754 ?_
    refine z_sld hx hb hX hbl hbA hS s1 dL_law_755 ?_
    refine z_callV1 (n := 1) (As := [.int p1]) (rest := []) S (zM_perm lw_perm lw_perm.symm M) qm_L_127 ⟨⟨qi_X6_append, qs_X6_append, qn_X6, qc_X6_append⟩, rfl, by decide, by decide, by decide +kernel⟩ ⟨Nat.le_of_ble_eq_true rfl, Nat.le_of_ble_eq_true rfl⟩ rfl rfl hN hK hP hD hS hA 140 rfl rfl rfl hl.1 rfl (Nat.le_of_ble_eq_true rfl) dL_law_756 hcs (fun Hp locs hP hD hS => ?_)
    have hKt : (upd (upd mr 2 0) 1 (nI (nb + 1))) 2 = (kAppend nb p1) := by rw [hk]; exact (upd_ne (by decide)).trans (upd_eq rfl)
    have hKv : (kAppend nb p1) = 0 → (vp_updL fo 0 ((nI (nb + 1))).toInt64) 0 = ((nI (nb + 1))).toInt64 := fun _ => pk_uLs.trans (congrArg Int32.toInt64 (show (nI (nb + 1)) = (nI (nb + 1)) from rfl))
    refine lw_tail (o := o) (q := q) (fo := (vp_updL fo 0 ((nI (nb + 1))).toInt64)) S (zM_perm lw_perm lw_perm.symm (c_X6_thrown (q := q) (mr := (upd (upd mr 2 0) 1 (nI (nb + 1)))))) ⟨Nat.le_of_ble_eq_true rfl, Nat.le_of_ble_eq_true rfl⟩ hN hK hP hD hS hA rfl rfl hcs hl hKt hKv dL_law_759 dL_law_761 dL_law_762 dL_law_765 dL_law_767 dL_law_772 dL_law_774 dL_law_777 dL_law_778 dL_law_779 dL_law_780 dL_law_782 dL_law_783 dL_law_784 dL_law_789 (by decide) (fun Hp locs ls hP hD hS hl => ?_)
    exact kk n z zh nx kp hi H (upd T nb p1) (nb + 1) r pa ke (upd (upd mr 2 0) 1 (nI (nb + 1))) hs (vp_updL fo 0 ((nI (nb + 1))).toInt64) (⟨rOK_up (by omega) hR, hOK_up (by omega) hH, by omega, fun k hk => (by
      by_cases e9 : k = nb
      · rw [upd_eq e9]; exact inP_sg a1
      · rw [upd_ne e9]; exact hT k (by omega)), (upd_ne (by decide)).trans ((upd_ne (by decide)).trans hm0), upd_eq rfl⟩) Hp locs ls hP hD hS hl
  · rw [if_neg hk] at hP hD
    have M := c_X6_append (l := l) (D := D) (cI := cI) (cC := cC) (cM := cM) (cB := cB) (cJ := cJ) (q := q) (z := z) (hi := hi) (tx := T) (pa := pa) (ke := ke) (mr := mr) (hs := hs) (wr := xw0 cI cC cM cB ad z t T (nI nb) r x h ah (nI nx) (nI kp) zh [outC cJ o fo]) hnb hm1 p1
    simp only [xwf, xv, if_neg hk] at M
    refine lv_aload_n hx hb dL_law_749 rfl (lv_at hl 3 rfl) ?_
    refine lv_aload_n hx hb dL_law_750 rfl (lv_at hl 1 rfl) ?_
    refine lv_iload hx hb dL_law_751 (lv_at hl 5 rfl) ?_
    refine lv_iconst (v := 1) hx hb dL_law_753 (by decide) ?_
    refine lv_iadd hx hb dL_law_754 ?_
    refine z_sld hx hb hX hbl hbA hS s1 dL_law_755 ?_
    refine z_callV1 (n := 1) (As := [.int p1]) (rest := []) S (zM_perm lw_perm lw_perm.symm M) qm_L_127 ⟨⟨qi_X6_append, qs_X6_append, qn_X6, qc_X6_append⟩, rfl, by decide, by decide, by decide +kernel⟩ ⟨Nat.le_of_ble_eq_true rfl, Nat.le_of_ble_eq_true rfl⟩ rfl rfl hN hK hP hD hS hA 140 rfl rfl rfl hl.1 rfl (Nat.le_of_ble_eq_true rfl) dL_law_756 hcs (fun Hp locs hP hD hS => ?_)
    have hKt : (upd mr 2 (kAppend nb p1)) 2 = (kAppend nb p1) := upd_eq rfl
    have hKv : (kAppend nb p1) = 0 → fo 0 = (0 : Int32).toInt64 := fun h9 => absurd h9 hk
    refine lw_tail (o := o) (q := q) (fo := fo) S (zM_perm lw_perm lw_perm.symm (c_X6_thrown (q := q) (mr := (upd mr 2 (kAppend nb p1))))) ⟨Nat.le_of_ble_eq_true rfl, Nat.le_of_ble_eq_true rfl⟩ hN hK hP hD hS hA rfl rfl hcs hl hKt hKv dL_law_759 dL_law_761 dL_law_762 dL_law_765 dL_law_767 dL_law_772 dL_law_774 dL_law_777 dL_law_778 dL_law_779 dL_law_780 dL_law_782 dL_law_783 dL_law_784 dL_law_789 (by decide) (fun Hp locs ls hP hD hS hl => ?_)
    exact kk n z zh nx kp hi H T nb r pa ke (upd mr 2 (kAppend nb p1)) hs fo (lwI_up hI (by omega) (upd_ne (by decide)) (upd_ne (by decide))) Hp locs ls hP hD hS hl
set_option maxHeartbeats 4000000 in
set_option maxRecDepth 100000 in
theorem k_run {p : Program} {l : Launch} {e : Env} {s : State} {m : MethodId} {below : List Frame} {meth : Method} {c : Code} {b L : Nat} {xs : Nat → Int32} {D : va_G} {cI cC cM cB cJ : ClassId} {ad t : Nat → Nat} {x : Nat} {h : Nat → Nat} {ah : Nat → Nat → Nat} {q : Nat → Nat} {o : Nat} {x4 : Int32} {C cells slots : Nat} {n : Nat} {z : Nat → Int32} {zh : Nat → Nat → Int32} {nx kp : Nat} {hi : Nat → Int32} {H : Nat → Nat → Int32} {T : Nat → Int32} {nb : Nat} {r pa ke mr : Nat → Int32} {hs : Int64} {fo : Nat → Int64} {Hp : Heap} {locs : List Loc} {ls : Array Slot} {p1 p2 p3 p4 : Int32}  (E : lwEnv p s m meth c b L xs D cI cC cM cB cJ) (hfl : l.stackTraces = false) (hC : C + 10 ≤ 6000) (hC1 : 1 ≤ C) (hI : lwI C n z zh nx kp hi H T nb mr) (hcs : cells + 1 ≤ 601024 ∧ slots + 6 ≤ 7293034) (hP : va_P D vwCl (xw0 cI cC cM cB ad z t T (nI nb) r x h ah (nI nx) (nI kp) zh (outC cJ o fo :: moW cI q z hi T pa ke mr hs [])) Hp) (hD : va_D (fun q : Nat => s.heap.size ≤ q) (xw0 cI cC cM cB ad z t T (nI nb) r x h ah (nI nx) (nI kp) zh (outC cJ o fo :: moW cI q z hi T pa ke mr hs []))) (hS : va_S (fun q : Nat => s.heap.size ≤ q) s.heap Hp locs) (hl : lv_has ls 9 (lwL b x o q x4)) (sc : lwScr xs L x4 p1 p2 p3 p4) (kk : lwK p l e s m below meth c b D cI cC cM cB cJ ad t x h ah q o x4 (C + 10) (cells + 1) (slots + 6)) : W p l e room_1 s m #[Value.ref b] below meth c Hp locs cells slots (lw_Z below #[Value.ref b] s) (F0 m 818 ls []) := by
  obtain ⟨⟨hx, hb, hr, hml, hown, hts, hX, hbl, hlocks, hgv⟩, hCn, hJ, hN, hK⟩ := id E
  have S : CallFix p m c code 9 s #[Value.ref b] TT RL := ⟨hx, hb, hml, hown, fun w hw => hts w (List.mem_filter.mp hw).1⟩
  have hA : ∀ q : Nat, s.heap.size ≤ q → (fun q : Nat => s.heap.size ≤ q) q := fun _ h => h
  have hbA : ¬ (fun q : Nat => s.heap.size ≤ q) b := Nat.not_le.mpr hbl
  obtain ⟨hR, hH, hnb, hT, hm0, hm1⟩ := id hI
  obtain ⟨hn, hz, hB, -⟩ := id hR
  obtain ⟨hnx, hkp, hBh, -⟩ := id hH
  obtain ⟨s1, s2, s3, s4⟩ := sc
  refine lv_aload_n hx hb dL_law_818 rfl (lv_at hl 1 rfl) ?_
  refine lv_aload_n hx hb dL_law_819 rfl (lv_at hl 3 rfl) ?_
  refine z_callH (n := 2) (As := [.ref x, .ref o]) (rest := []) S (c_L_run (fo := fo) (wr := moW cI q z hi T pa ke mr hs []) hfl hn hz hnx hkp hB hnb) qm_L_136 ⟨qt_L_run, qn_L, qw_L_run⟩ ⟨by decide, by decide, by decide +kernel⟩ ⟨Nat.le_of_ble_eq_true rfl, Nat.le_of_ble_eq_true rfl⟩ rfl rfl hCn hJ hN hK hP hD hS hA rfl hl.1 rfl (Nat.le_of_ble_eq_true rfl) dL_law_820 hcs (fun Hp locs hP hD hS => ?_)
  refine lv_istore (lv' := (5, .int (kRun T r nb)) :: lwL b x o q x4) hx hb dL_law_823 hl (by decide) rfl (fun ls hl => ?_)
  by_cases hk : (kRun T r nb) = 0
  · rw [if_pos hk] at hP hD
    obtain ⟨e1, e2, hZ⟩ := run_eq (r := r) (pa := pa) (mr := mr) hnb hT hR (by omega) ((run_k (r := r) (pa := pa) (mr := mr) hnb hT).1.symm.trans hk)
    have M := c_X6_run (l := l) (D := D) (cI := cI) (cC := cC) (cM := cM) (cB := cB) (cJ := cJ) (q := q) (hi := hi) (tx := T) (pa := pa) (ke := ke) (mr := mr) (hs := hs) (wr := xw0 cI cC cM cB ad ((mdX T (feR T (rstR r) 0 nb) n nb z 0 0 (nb + 1)).1) t T (nI 0) ((mdX T (feR T (rstR r) 0 nb) n nb z 0 0 (nb + 1)).2.2) x h ah (nI ((nx + 1) % 6)) (nI (min (kp + 1) 6)) (zup zh nx z) [outC cJ o (vp_updL fo 0 ((mdX T (feR T (rstR r) 0 nb) n nb z 0 0 (nb + 1)).2.1).toInt64)]) hn hz hkp hm0 hB hnb hm1
    rw [← (run_k (r := r) (pa := pa) (mr := mr) hnb hT).1] at M
    simp only [xwf, xv, if_pos hk] at M
    refine lv_aload_n hx hb dL_law_825 rfl (lv_at hl 3 rfl) ?_
    refine z_callV1 (n := 0) (As := []) (rest := []) S (zM_perm lw_perm lw_perm.symm M) qm_L_138 ⟨⟨qi_X6_run, qs_X6_run, qn_X6, qc_X6_run⟩, rfl, by decide, by decide, by decide +kernel⟩ ⟨Nat.le_of_ble_eq_true rfl, Nat.le_of_ble_eq_true rfl⟩ rfl rfl hN hK hP hD hS hA 140 rfl rfl rfl hl.1 rfl (Nat.le_of_ble_eq_true rfl) dL_law_826 hcs (fun Hp locs hP hD hS => ?_)
    have hKt : (upd (upd (upd ((fmS T (tM0 pa mr) 0 nb).2.1) 2 0) 0 (nI (min (kp + 1) 6))) 1 0) 2 = (kRun T r nb) := by rw [hk]; exact (upd_ne (by decide)).trans ((upd_ne (by decide)).trans (upd_eq rfl))
    have hKv : (kRun T r nb) = 0 → (vp_updL fo 0 ((mdX T (feR T (rstR r) 0 nb) n nb z 0 0 (nb + 1)).2.1).toInt64) 0 = (((mkX (fmS T (tM0 pa mr) 0 nb).1 n z 0 ((fmS T (tM0 pa mr) 0 nb).2.2 + 1)).2)).toInt64 := fun _ => pk_uLs.trans (congrArg Int32.toInt64 (show (mdX T (feR T (rstR r) 0 nb) n nb z 0 0 (nb + 1)).2.1 = ((mkX (fmS T (tM0 pa mr) 0 nb).1 n z 0 ((fmS T (tM0 pa mr) 0 nb).2.2 + 1)).2) from e2))
    refine lw_tail (o := o) (q := q) (fo := (vp_updL fo 0 ((mdX T (feR T (rstR r) 0 nb) n nb z 0 0 (nb + 1)).2.1).toInt64)) S (zM_perm lw_perm lw_perm.symm (c_X6_thrown (q := q) (mr := (upd (upd (upd ((fmS T (tM0 pa mr) 0 nb).2.1) 2 0) 0 (nI (min (kp + 1) 6))) 1 0)))) ⟨Nat.le_of_ble_eq_true rfl, Nat.le_of_ble_eq_true rfl⟩ hN hK hP hD hS hA rfl rfl hcs hl hKt hKv dL_law_829 dL_law_831 dL_law_832 dL_law_835 dL_law_837 dL_law_842 dL_law_844 dL_law_847 dL_law_848 dL_law_849 dL_law_850 dL_law_852 dL_law_853 dL_law_854 dL_law_859 (by decide) (fun Hp locs ls hP hD hS hl => ?_)
    have hcC : eqC ((mdX T (feR T (rstR r) 0 nb) n nb z 0 0 (nb + 1)).1) ((mkX (fmS T (tM0 pa mr) 0 nb).1 n z 0 ((fmS T (tM0 pa mr) 0 nb).2.2 + 1)).1) := fun k _ _ _ => congrFun e1 k
    have hmM : eqM ((mkX (fmS T (tM0 pa mr) 0 nb).1 n z 0 ((fmS T (tM0 pa mr) 0 nb).2.2 + 1)).1) ((mkX (fmS T (tM0 pa mr) 0 nb).1 n z 0 ((fmS T (tM0 pa mr) 0 nb).2.2 + 1)).1) := fun _ _ => rfl
    rw [lw_eq hcC hmM] at hP hD
    exact kk n ((mkX (fmS T (tM0 pa mr) 0 nb).1 n z 0 ((fmS T (tM0 pa mr) 0 nb).2.2 + 1)).1) (zup zh nx z) ((nx + 1) % 6) (min (kp + 1) 6) (svH hi z kp) (svR H z kp) T 0 ((mdX T (feR T (rstR r) 0 nb) n nb z 0 0 (nb + 1)).2.2) ((fmS T (tM0 pa mr) 0 nb).1) ke (upd (upd (upd ((fmS T (tM0 pa mr) 0 nb).2.1) 2 0) 0 (nI (min (kp + 1) 6))) 1 0) hs (vp_updL fo 0 ((mdX T (feR T (rstR r) 0 nb) n nb z 0 0 (nb + 1)).2.1).toInt64) (⟨hZ, hs_save (hOK_up (by omega) hH) (rOK_up (by omega) hR), by omega, fun k hk => absurd hk (by omega), (upd_ne (by decide)).trans (upd_eq rfl), upd_eq rfl⟩) Hp locs ls hP hD hS hl
  · rw [if_neg hk] at hP hD
    have M := c_X6_run (l := l) (D := D) (cI := cI) (cC := cC) (cM := cM) (cB := cB) (cJ := cJ) (q := q) (hi := hi) (tx := T) (pa := pa) (ke := ke) (mr := mr) (hs := hs) (wr := xw0 cI cC cM cB ad z t T (nI nb) (feR T (rstR r) 0 nb) x h ah (nI nx) (nI kp) zh [outC cJ o fo]) hn hz hkp hm0 hB hnb hm1
    rw [← (run_k (r := r) (pa := pa) (mr := mr) hnb hT).1] at M
    simp only [xwf, xv, if_neg hk] at M
    refine lv_aload_n hx hb dL_law_825 rfl (lv_at hl 3 rfl) ?_
    refine z_callV1 (n := 0) (As := []) (rest := []) S (zM_perm lw_perm lw_perm.symm M) qm_L_138 ⟨⟨qi_X6_run, qs_X6_run, qn_X6, qc_X6_run⟩, rfl, by decide, by decide, by decide +kernel⟩ ⟨Nat.le_of_ble_eq_true rfl, Nat.le_of_ble_eq_true rfl⟩ rfl rfl hN hK hP hD hS hA 140 rfl rfl rfl hl.1 rfl (Nat.le_of_ble_eq_true rfl) dL_law_826 hcs (fun Hp locs hP hD hS => ?_)
    have hKt : (upd ((fmS T (tM0 pa mr) 0 nb).2.1) 2 (kRun T r nb)) 2 = (kRun T r nb) := upd_eq rfl
    have hKv : (kRun T r nb) = 0 → fo 0 = (0 : Int32).toInt64 := fun h9 => absurd h9 hk
    refine lw_tail (o := o) (q := q) (fo := fo) S (zM_perm lw_perm lw_perm.symm (c_X6_thrown (q := q) (mr := (upd ((fmS T (tM0 pa mr) 0 nb).2.1) 2 (kRun T r nb))))) ⟨Nat.le_of_ble_eq_true rfl, Nat.le_of_ble_eq_true rfl⟩ hN hK hP hD hS hA rfl rfl hcs hl hKt hKv dL_law_829 dL_law_831 dL_law_832 dL_law_835 dL_law_837 dL_law_842 dL_law_844 dL_law_847 dL_law_848 dL_law_849 dL_law_850 dL_law_852 dL_law_853 dL_law_854 dL_law_859 (by decide) (fun Hp locs ls hP hD hS hl => ?_)
    exact kk n z zh nx kp hi H T nb (feR T (rstR r) 0 nb) ((fmS T (tM0 pa mr) 0 nb).1) ke (upd ((fmS T (tM0 pa mr) 0 nb).2.1) 2 (kRun T r nb)) hs fo (lwI_up hI (by omega) ((upd_ne (by decide)).trans (fmS_0 (by decide) (by decide) (by decide))) ((upd_ne (by decide)).trans (fmS_0 (by decide) (by decide) (by decide)))) Hp locs ls hP hD hS hl
set_option maxHeartbeats 4000000 in
set_option maxRecDepth 100000 in
theorem k_undo {p : Program} {l : Launch} {e : Env} {s : State} {m : MethodId} {below : List Frame} {meth : Method} {c : Code} {b L : Nat} {xs : Nat → Int32} {D : va_G} {cI cC cM cB cJ : ClassId} {ad t : Nat → Nat} {x : Nat} {h : Nat → Nat} {ah : Nat → Nat → Nat} {q : Nat → Nat} {o : Nat} {x4 : Int32} {C cells slots : Nat} {n : Nat} {z : Nat → Int32} {zh : Nat → Nat → Int32} {nx kp : Nat} {hi : Nat → Int32} {H : Nat → Nat → Int32} {T : Nat → Int32} {nb : Nat} {r pa ke mr : Nat → Int32} {hs : Int64} {fo : Nat → Int64} {Hp : Heap} {locs : List Loc} {ls : Array Slot} {p1 p2 p3 p4 : Int32}  (E : lwEnv p s m meth c b L xs D cI cC cM cB cJ) (hfl : l.stackTraces = false) (hC : C + 10 ≤ 6000) (hC1 : 1 ≤ C) (hI : lwI C n z zh nx kp hi H T nb mr) (hcs : cells + 1 ≤ 601024 ∧ slots + 6 ≤ 7293034) (hP : va_P D vwCl (xw0 cI cC cM cB ad z t T (nI nb) r x h ah (nI nx) (nI kp) zh (outC cJ o fo :: moW cI q z hi T pa ke mr hs [])) Hp) (hD : va_D (fun q : Nat => s.heap.size ≤ q) (xw0 cI cC cM cB ad z t T (nI nb) r x h ah (nI nx) (nI kp) zh (outC cJ o fo :: moW cI q z hi T pa ke mr hs []))) (hS : va_S (fun q : Nat => s.heap.size ≤ q) s.heap Hp locs) (hl : lv_has ls 9 (lwL b x o q x4)) (sc : lwScr xs L x4 p1 p2 p3 p4) (kk : lwK p l e s m below meth c b D cI cC cM cB cJ ad t x h ah q o x4 (C + 10) (cells + 1) (slots + 6)) : W p l e room_1 s m #[Value.ref b] below meth c Hp locs cells slots (lw_Z below #[Value.ref b] s) (F0 m 862 ls []) := by
  obtain ⟨⟨hx, hb, hr, hml, hown, hts, hX, hbl, hlocks, hgv⟩, hCn, hJ, hN, hK⟩ := id E
  have S : CallFix p m c code 9 s #[Value.ref b] TT RL := ⟨hx, hb, hml, hown, fun w hw => hts w (List.mem_filter.mp hw).1⟩
  have hA : ∀ q : Nat, s.heap.size ≤ q → (fun q : Nat => s.heap.size ≤ q) q := fun _ h => h
  have hbA : ¬ (fun q : Nat => s.heap.size ≤ q) b := Nat.not_le.mpr hbl
  obtain ⟨hR, hH, hnb, hT, hm0, hm1⟩ := id hI
  obtain ⟨hn, hz, hB, -⟩ := id hR
  obtain ⟨hnx, hkp, hBh, -⟩ := id hH
  obtain ⟨s1, s2, s3, s4⟩ := sc
  refine lv_aload_n hx hb dL_law_862 rfl (lv_at hl 1 rfl) ?_
  refine lv_aload_n hx hb dL_law_863 rfl (lv_at hl 3 rfl) ?_
  refine z_callH (n := 2) (As := [.ref x, .ref o]) (rest := []) S (c_L_undo (fo := fo) (wr := moW cI q z hi T pa ke mr hs []) hfl hnx hkp hBh) qm_L_139 ⟨qt_L_undo, qn_L, qw_L_undo⟩ ⟨by decide, by decide, by decide +kernel⟩ ⟨Nat.le_of_ble_eq_true rfl, Nat.le_of_ble_eq_true rfl⟩ rfl rfl hCn hJ hN hK hP hD hS hA rfl hl.1 rfl (Nat.le_of_ble_eq_true rfl) dL_law_864 hcs (fun Hp locs hP hD hS => ?_)
  refine lv_istore (lv' := (5, .int (kUndo kp)) :: lwL b x o q x4) hx hb dL_law_867 hl (by decide) rfl (fun ls hl => ?_)
  by_cases hk : (kUndo kp) = 0
  · rw [if_pos hk] at hP hD
    have k1 := k0_undo hkp hk
    obtain ⟨u1, u2, u3, n9, hZ⟩ := hs_undo (z := z) hH k1
    have e9 : nI kp - 1 = nI (kp - 1) := pk_sub (b := 1) k1
    rw [e9] at hP hD
    have M := c_X6_undo (l := l) (D := D) (cI := cI) (cC := cC) (cM := cM) (cB := cB) (cJ := cJ) (q := q) (z := z) (hi := hi) (tx := T) (pa := pa) (ke := ke) (mr := mr) (hs := hs) (wr := xw0 cI cC cM cB ad (zh ((nx + 5) % 6)) t T (nI nb) r x h ah (nI ((nx + 5) % 6)) (nI (kp - 1)) zh [outC cJ o (vp_updL fo 0 (nI (kp - 1)).toInt64)]) hkp hm0
    rw [← (kU_eq hkp).symm] at M
    simp only [xwf, xv, if_pos hk] at M
    refine lv_aload_n hx hb dL_law_869 rfl (lv_at hl 3 rfl) ?_
    refine z_callV1 (n := 0) (As := []) (rest := []) S (zM_perm lw_perm lw_perm.symm M) qm_L_141 ⟨⟨qi_X6_undo, qs_X6_undo, qn_X6, qc_X6_undo⟩, rfl, by decide, by decide, by decide +kernel⟩ ⟨Nat.le_of_ble_eq_true rfl, Nat.le_of_ble_eq_true rfl⟩ rfl rfl hN hK hP hD hS hA 140 rfl rfl rfl hl.1 rfl (Nat.le_of_ble_eq_true rfl) dL_law_870 hcs (fun Hp locs hP hD hS => ?_)
    have hKt : (upd (upd mr 2 0) 0 (nI (kp - 1))) 2 = (kUndo kp) := by rw [hk]; exact (upd_ne (by decide)).trans (upd_eq rfl)
    have hKv : (kUndo kp) = 0 → (vp_updL fo 0 (nI (kp - 1)).toInt64) 0 = ((nI (kp - 1))).toInt64 := fun _ => pk_uLs.trans (congrArg Int32.toInt64 (show nI (kp - 1) = (nI (kp - 1)) from rfl))
    refine lw_tail (o := o) (q := q) (fo := (vp_updL fo 0 (nI (kp - 1)).toInt64)) S (zM_perm lw_perm lw_perm.symm (c_X6_thrown (q := q) (mr := (upd (upd mr 2 0) 0 (nI (kp - 1)))))) ⟨Nat.le_of_ble_eq_true rfl, Nat.le_of_ble_eq_true rfl⟩ hN hK hP hD hS hA rfl rfl hcs hl hKt hKv dL_law_873 dL_law_875 dL_law_876 dL_law_879 dL_law_881 dL_law_886 dL_law_888 dL_law_891 dL_law_892 dL_law_893 dL_law_894 dL_law_896 dL_law_897 dL_law_898 dL_law_903 (by decide) (fun Hp locs ls hP hD hS hl => ?_)
    have hcC : eqC (zh ((nx + 5) % 6)) (H (kp - 1)) := u2
    have hmM : eqM (unR z hi (kp - 1) 142) (H (kp - 1)) := u3
    rw [lw_eq hcC hmM] at hP hD
    exact kk n9 (H (kp - 1)) zh ((nx + 5) % 6) (kp - 1) hi H T nb r pa ke (upd (upd mr 2 0) 0 (nI (kp - 1))) hs (vp_updL fo 0 (nI (kp - 1)).toInt64) (⟨rOK_up (by omega) hZ, hOK_up (by omega) u1, hnb, hT, upd_eq rfl, (upd_ne (by decide)).trans ((upd_ne (by decide)).trans hm1)⟩) Hp locs ls hP hD hS hl
  · rw [if_neg hk] at hP hD
    have M := c_X6_undo (l := l) (D := D) (cI := cI) (cC := cC) (cM := cM) (cB := cB) (cJ := cJ) (q := q) (z := z) (hi := hi) (tx := T) (pa := pa) (ke := ke) (mr := mr) (hs := hs) (wr := xw0 cI cC cM cB ad z t T (nI nb) r x h ah (nI nx) (nI kp) zh [outC cJ o fo]) hkp hm0
    rw [← (kU_eq hkp).symm] at M
    simp only [xwf, xv, if_neg hk] at M
    refine lv_aload_n hx hb dL_law_869 rfl (lv_at hl 3 rfl) ?_
    refine z_callV1 (n := 0) (As := []) (rest := []) S (zM_perm lw_perm lw_perm.symm M) qm_L_141 ⟨⟨qi_X6_undo, qs_X6_undo, qn_X6, qc_X6_undo⟩, rfl, by decide, by decide, by decide +kernel⟩ ⟨Nat.le_of_ble_eq_true rfl, Nat.le_of_ble_eq_true rfl⟩ rfl rfl hN hK hP hD hS hA 140 rfl rfl rfl hl.1 rfl (Nat.le_of_ble_eq_true rfl) dL_law_870 hcs (fun Hp locs hP hD hS => ?_)
    have hKt : (upd mr 2 (kUndo kp)) 2 = (kUndo kp) := upd_eq rfl
    have hKv : (kUndo kp) = 0 → fo 0 = (0 : Int32).toInt64 := fun h9 => absurd h9 hk
    refine lw_tail (o := o) (q := q) (fo := fo) S (zM_perm lw_perm lw_perm.symm (c_X6_thrown (q := q) (mr := (upd mr 2 (kUndo kp))))) ⟨Nat.le_of_ble_eq_true rfl, Nat.le_of_ble_eq_true rfl⟩ hN hK hP hD hS hA rfl rfl hcs hl hKt hKv dL_law_873 dL_law_875 dL_law_876 dL_law_879 dL_law_881 dL_law_886 dL_law_888 dL_law_891 dL_law_892 dL_law_893 dL_law_894 dL_law_896 dL_law_897 dL_law_898 dL_law_903 (by decide) (fun Hp locs ls hP hD hS hl => ?_)
    exact kk n z zh nx kp hi H T nb r pa ke (upd mr 2 (kUndo kp)) hs fo (lwI_up hI (by omega) (upd_ne (by decide)) (upd_ne (by decide))) Hp locs ls hP hD hS hl
