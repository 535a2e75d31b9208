/-! The cases of the law's loop, on. -/
set_option maxHeartbeats 4000000 in
set_option maxRecDepth 100000 in
theorem k_member {p : Program} {l : Launch} {e : Env} {s : State} {m : MethodId} {below : List Frame} {meth : Method} {c : Code} {b L : Nat} {xs : Nat → Int32} {D : va_G} {cI cC cM cB cJ : ClassId} {ad t : Nat → Nat} {x : Nat} {h : Nat → Nat} {ah : Nat → Nat → Nat} {q : Nat → Nat} {o : Nat} {x4 : Int32} {C cells slots : Nat} {n : Nat} {z : Nat → Int32} {zh : Nat → Nat → Int32} {nx kp : Nat} {hi : Nat → Int32} {H : Nat → Nat → Int32} {T : Nat → Int32} {nb : Nat} {r pa ke mr : Nat → Int32} {hs : Int64} {fo : Nat → Int64} {Hp : Heap} {locs : List Loc} {ls : Array Slot} {p1 p2 p3 p4 : Int32}  (E : lwEnv p s m meth c b L xs D cI cC cM cB cJ) (hfl : l.stackTraces = false) (hC : C + 10 ≤ 6000) (hC1 : 1 ≤ C) (hI : lwI C n z zh nx kp hi H T nb mr) (hcs : cells + 1 ≤ 601024 ∧ slots + 6 ≤ 7293034) (hP : va_P D vwCl (xw0 cI cC cM cB ad z t T (nI nb) r x h ah (nI nx) (nI kp) zh (outC cJ o fo :: moW cI q z hi T pa ke mr hs [])) Hp) (hD : va_D (fun q : Nat => s.heap.size ≤ q) (xw0 cI cC cM cB ad z t T (nI nb) r x h ah (nI nx) (nI kp) zh (outC cJ o fo :: moW cI q z hi T pa ke mr hs []))) (hS : va_S (fun q : Nat => s.heap.size ≤ q) s.heap Hp locs) (hl : lv_has ls 9 (lwL b x o q x4)) (sc : lwScr xs L x4 p1 p2 p3 p4) (kk : lwK p l e s m below meth c b D cI cC cM cB cJ ad t x h ah q o x4 (C + 10) (cells + 1) (slots + 6)) : W p l e room_1 s m #[Value.ref b] below meth c Hp locs cells slots (lw_Z below #[Value.ref b] s) (F0 m 906 ls []) := by
  obtain ⟨⟨hx, hb, hr, hml, hown, hts, hX, hbl, hlocks, hgv⟩, hCn, hJ, hN, hK⟩ := id E
  have S : CallFix p m c code 9 s #[Value.ref b] TT RL := ⟨hx, hb, hml, hown, fun w hw => hts w (List.mem_filter.mp hw).1⟩
  have hA : ∀ q : Nat, s.heap.size ≤ q → (fun q : Nat => s.heap.size ≤ q) q := fun _ h => h
  have hbA : ¬ (fun q : Nat => s.heap.size ≤ q) b := Nat.not_le.mpr hbl
  obtain ⟨hR, hH, hnb, hT, hm0, hm1⟩ := id hI
  obtain ⟨hn, hz, hB, -⟩ := id hR
  obtain ⟨hnx, hkp, hBh, -⟩ := id hH
  obtain ⟨s1, s2, s3, s4⟩ := sc
  refine lv_aload_n hx hb dL_law_906 rfl (lv_at hl 1 rfl) ?_
  refine lv_aload_n hx hb dL_law_907 rfl (lv_at hl 0 rfl) ?_
  refine lv_iload hx hb dL_law_908 (lv_at hl 4 rfl) ?_
  refine lv_iconst (v := 1) hx hb dL_law_910 (by decide) ?_
  refine lv_iadd hx hb dL_law_911 ?_
  refine z_sld hx hb hX hbl hbA hS s1 dL_law_912 ?_
  refine lv_aload_n hx hb dL_law_913 rfl (lv_at hl 0 rfl) ?_
  refine lv_iload hx hb dL_law_914 (lv_at hl 4 rfl) ?_
  refine lv_iconst (v := 2) hx hb dL_law_916 (by decide) ?_
  refine lv_iadd hx hb dL_law_917 ?_
  refine z_sld hx hb hX hbl hbA hS s2 dL_law_918 ?_
  refine lv_aload_n hx hb dL_law_919 rfl (lv_at hl 3 rfl) ?_
  refine z_callH (n := 4) (As := [.ref x, .int p1, .int p2, .ref o]) (rest := []) S (c_L_member (fo := fo) (wr := moW cI q z hi T pa ke mr hs []) hfl hn hz p1 p2) qm_L_142 ⟨qt_L_member, qn_L, qw_L_member⟩ ⟨by decide, by decide, by decide +kernel⟩ ⟨Nat.le_of_ble_eq_true rfl, Nat.le_of_ble_eq_true rfl⟩ rfl rfl hCn hJ hN hK hP hD hS hA rfl hl.1 rfl (Nat.le_of_ble_eq_true rfl) dL_law_920 hcs (fun Hp locs hP hD hS => ?_)
  refine lv_istore (lv' := (5, .int (kMember n p1 p2)) :: lwL b x o q x4) hx hb dL_law_923 hl (by decide) rfl (fun ls hl => ?_)
  by_cases hk : (kMember n p1 p2) = 0
  · rw [if_pos hk] at hP hD
    have M := c_X6_member (l := l) (D := D) (cI := cI) (cC := cC) (cM := cM) (cB := cB) (cJ := cJ) (q := q) (hi := hi) (tx := T) (pa := pa) (ke := ke) (mr := mr) (hs := hs) (wr := xw0 cI cC cM cB ad z t T (nI nb) r x h ah (nI nx) (nI kp) zh [outC cJ o (vp_updL fo 0 ((prpP z (cl p1) p2)).toInt64)]) hn hz hB (rOK_vote hR) p1 p2
    simp only [xwf, xv, if_pos hk] at M
    refine lv_aload_n hx hb dL_law_925 rfl (lv_at hl 3 rfl) ?_
    refine lv_aload_n hx hb dL_law_926 rfl (lv_at hl 1 rfl) ?_
    refine lv_iload hx hb dL_law_927 (lv_at hl 5 rfl) ?_
    refine lv_iconst (v := 1) hx hb dL_law_929 (by decide) ?_
    refine lv_iadd hx hb dL_law_930 ?_
    refine z_sld hx hb hX hbl hbA hS s1 dL_law_931 ?_
    refine lv_aload_n hx hb dL_law_932 rfl (lv_at hl 1 rfl) ?_
    refine lv_iload hx hb dL_law_933 (lv_at hl 5 rfl) ?_
    refine lv_iconst (v := 2) hx hb dL_law_935 (by decide) ?_
    refine lv_iadd hx hb dL_law_936 ?_
    refine z_sld hx hb hX hbl hbA hS s2 dL_law_937 ?_
    refine z_callV1 (n := 2) (As := [.int p1, .int p2]) (rest := []) S (zM_perm lw_perm lw_perm.symm M) qm_L_144 ⟨⟨qi_X6_member, qs_X6_member, qn_X6, qc_X6_member⟩, rfl, by decide, by decide, by decide +kernel⟩ ⟨Nat.le_of_ble_eq_true rfl, Nat.le_of_ble_eq_true rfl⟩ rfl rfl hN hK hP hD hS hA 140 rfl rfl rfl hl.1 rfl (Nat.le_of_ble_eq_true rfl) dL_law_938 hcs (fun Hp locs hP hD hS => ?_)
    have hKt : (upd mr 2 0) 2 = (kMember n p1 p2) := by rw [hk]; exact upd_eq rfl
    have hKv : (kMember n p1 p2) = 0 → (vp_updL fo 0 ((prpP z (cl p1) p2)).toInt64) 0 = ((prpP z (cl p1) p2)).toInt64 := fun _ => pk_uLs.trans (congrArg Int32.toInt64 (show (prpP z (cl p1) p2) = (prpP z (cl p1) p2) from rfl))
    refine lw_tail (o := o) (q := q) (fo := (vp_updL fo 0 ((prpP z (cl p1) p2)).toInt64)) S (zM_perm lw_perm lw_perm.symm (c_X6_thrown (q := q) (mr := (upd mr 2 0)))) ⟨Nat.le_of_ble_eq_true rfl, Nat.le_of_ble_eq_true rfl⟩ hN hK hP hD hS hA rfl rfl hcs hl hKt hKv dL_law_941 dL_law_943 dL_law_944 dL_law_947 dL_law_949 dL_law_954 dL_law_956 dL_law_959 dL_law_960 dL_law_961 dL_law_962 dL_law_964 dL_law_965 dL_law_966 dL_law_971 (by decide) (fun Hp locs ls hP hD hS hl => ?_)
    exact kk n z zh nx kp hi H T nb r pa ke (upd mr 2 0) hs (vp_updL fo 0 ((prpP z (cl p1) p2)).toInt64) (lwI_up hI (by omega) (upd_ne (by decide)) (upd_ne (by decide))) Hp locs ls hP hD hS hl
  · rw [if_neg hk] at hP hD
    have M := c_X6_member (l := l) (D := D) (cI := cI) (cC := cC) (cM := cM) (cB := cB) (cJ := cJ) (q := q) (hi := hi) (tx := T) (pa := pa) (ke := ke) (mr := mr) (hs := hs) (wr := xw0 cI cC cM cB ad z t T (nI nb) r x h ah (nI nx) (nI kp) zh [outC cJ o fo]) hn hz hB (rOK_vote hR) p1 p2
    simp only [xwf, xv, if_neg hk] at M
    refine lv_aload_n hx hb dL_law_925 rfl (lv_at hl 3 rfl) ?_
    refine lv_aload_n hx hb dL_law_926 rfl (lv_at hl 1 rfl) ?_
    refine lv_iload hx hb dL_law_927 (lv_at hl 5 rfl) ?_
    refine lv_iconst (v := 1) hx hb dL_law_929 (by decide) ?_
    refine lv_iadd hx hb dL_law_930 ?_
    refine z_sld hx hb hX hbl hbA hS s1 dL_law_931 ?_
    refine lv_aload_n hx hb dL_law_932 rfl (lv_at hl 1 rfl) ?_
    refine lv_iload hx hb dL_law_933 (lv_at hl 5 rfl) ?_
    refine lv_iconst (v := 2) hx hb dL_law_935 (by decide) ?_
    refine lv_iadd hx hb dL_law_936 ?_
    refine z_sld hx hb hX hbl hbA hS s2 dL_law_937 ?_
    refine z_callV1 (n := 2) (As := [.int p1, .int p2]) (rest := []) S (zM_perm lw_perm lw_perm.symm M) qm_L_144 ⟨⟨qi_X6_member, qs_X6_member, qn_X6, qc_X6_member⟩, rfl, by decide, by decide, by decide +kernel⟩ ⟨Nat.le_of_ble_eq_true rfl, Nat.le_of_ble_eq_true rfl⟩ rfl rfl hN hK hP hD hS hA 140 rfl rfl rfl hl.1 rfl (Nat.le_of_ble_eq_true rfl) dL_law_938 hcs (fun Hp locs hP hD hS => ?_)
    have hKt : (upd mr 2 (kMember n p1 p2)) 2 = (kMember n p1 p2) := upd_eq rfl
    have hKv : (kMember n p1 p2) = 0 → fo 0 = (0 : Int32).toInt64 := fun h9 => absurd h9 hk
    refine lw_tail (o := o) (q := q) (fo := fo) S (zM_perm lw_perm lw_perm.symm (c_X6_thrown (q := q) (mr := (upd mr 2 (kMember n p1 p2))))) ⟨Nat.le_of_ble_eq_true rfl, Nat.le_of_ble_eq_true rfl⟩ hN hK hP hD hS hA rfl rfl hcs hl hKt hKv dL_law_941 dL_law_943 dL_law_944 dL_law_947 dL_law_949 dL_law_954 dL_law_956 dL_law_959 dL_law_960 dL_law_961 dL_law_962 dL_law_964 dL_law_965 dL_law_966 dL_law_971 (by decide) (fun Hp locs ls hP hD hS hl => ?_)
    exact kk n z zh nx kp hi H T nb r pa ke (upd mr 2 (kMember n p1 p2)) hs fo (lwI_up hI (by omega) (upd_ne (by decide)) (upd_ne (by decide))) Hp locs ls hP hD hS hl
set_option maxHeartbeats 4000000 in
set_option maxRecDepth 100000 in
theorem k_skill {p : Program} {l : Launch} {e : Env} {s : State} {m : MethodId} {below : List Frame} {meth : Method} {c : Code} {b L : Nat} {xs : Nat → Int32} {D : va_G} {cI cC cM cB cJ : ClassId} {ad t : Nat → Nat} {x : Nat} {h : Nat → Nat} {ah : Nat → Nat → Nat} {q : Nat → Nat} {o : Nat} {x4 : Int32} {C cells slots : Nat} {n : Nat} {z : Nat → Int32} {zh : Nat → Nat → Int32} {nx kp : Nat} {hi : Nat → Int32} {H : Nat → Nat → Int32} {T : Nat → Int32} {nb : Nat} {r pa ke mr : Nat → Int32} {hs : Int64} {fo : Nat → Int64} {Hp : Heap} {locs : List Loc} {ls : Array Slot} {p1 p2 p3 p4 : Int32}  (E : lwEnv p s m meth c b L xs D cI cC cM cB cJ) (hfl : l.stackTraces = false) (hC : C + 10 ≤ 6000) (hC1 : 1 ≤ C) (hI : lwI C n z zh nx kp hi H T nb mr) (hcs : cells + 1 ≤ 601024 ∧ slots + 6 ≤ 7293034) (hP : va_P D vwCl (xw0 cI cC cM cB ad z t T (nI nb) r x h ah (nI nx) (nI kp) zh (outC cJ o fo :: moW cI q z hi T pa ke mr hs [])) Hp) (hD : va_D (fun q : Nat => s.heap.size ≤ q) (xw0 cI cC cM cB ad z t T (nI nb) r x h ah (nI nx) (nI kp) zh (outC cJ o fo :: moW cI q z hi T pa ke mr hs []))) (hS : va_S (fun q : Nat => s.heap.size ≤ q) s.heap Hp locs) (hl : lv_has ls 9 (lwL b x o q x4)) (sc : lwScr xs L x4 p1 p2 p3 p4) (kk : lwK p l e s m below meth c b D cI cC cM cB cJ ad t x h ah q o x4 (C + 10) (cells + 1) (slots + 6)) : W p l e room_1 s m #[Value.ref b] below meth c Hp locs cells slots (lw_Z below #[Value.ref b] s) (F0 m 974 ls []) := by
  obtain ⟨⟨hx, hb, hr, hml, hown, hts, hX, hbl, hlocks, hgv⟩, hCn, hJ, hN, hK⟩ := id E
  have S : CallFix p m c code 9 s #[Value.ref b] TT RL := ⟨hx, hb, hml, hown, fun w hw => hts w (List.mem_filter.mp hw).1⟩
  have hA : ∀ q : Nat, s.heap.size ≤ q → (fun q : Nat => s.heap.size ≤ q) q := fun _ h => h
  have hbA : ¬ (fun q : Nat => s.heap.size ≤ q) b := Nat.not_le.mpr hbl
  obtain ⟨hR, hH, hnb, hT, hm0, hm1⟩ := id hI
  obtain ⟨hn, hz, hB, -⟩ := id hR
  obtain ⟨hnx, hkp, hBh, -⟩ := id hH
  obtain ⟨s1, s2, s3, s4⟩ := sc
  refine lv_aload_n hx hb dL_law_974 rfl (lv_at hl 1 rfl) ?_
  refine lv_aload_n hx hb dL_law_975 rfl (lv_at hl 0 rfl) ?_
  refine lv_iload hx hb dL_law_976 (lv_at hl 4 rfl) ?_
  refine lv_iconst (v := 1) hx hb dL_law_978 (by decide) ?_
  refine lv_iadd hx hb dL_law_979 ?_
  refine z_sld hx hb hX hbl hbA hS s1 dL_law_980 ?_
  refine lv_aload_n hx hb dL_law_981 rfl (lv_at hl 0 rfl) ?_
  refine lv_iload hx hb dL_law_982 (lv_at hl 4 rfl) ?_
  refine lv_iconst (v := 2) hx hb dL_law_984 (by decide) ?_
  refine lv_iadd hx hb dL_law_985 ?_
  refine z_sld hx hb hX hbl hbA hS s2 dL_law_986 ?_
  refine lv_aload_n hx hb dL_law_987 rfl (lv_at hl 0 rfl) ?_
  refine lv_iload hx hb dL_law_988 (lv_at hl 4 rfl) ?_
  refine lv_iconst (v := 3) hx hb dL_law_990 (by decide) ?_
  refine lv_iadd hx hb dL_law_991 ?_
  refine z_sld hx hb hX hbl hbA hS s3 dL_law_992 ?_
  refine lv_aload_n hx hb dL_law_993 rfl (lv_at hl 3 rfl) ?_
  refine z_callH (n := 5) (As := [.ref x, .int p1, .int p2, .int p3, .ref o]) (rest := []) S (c_L_skill (fo := fo) (wr := moW cI q z hi T pa ke mr hs []) hfl hn hz p1 p2 p3) qm_L_145 ⟨qt_L_skill, qn_L, qw_L_skill⟩ ⟨by decide, by decide, by decide +kernel⟩ ⟨Nat.le_of_ble_eq_true rfl, Nat.le_of_ble_eq_true rfl⟩ rfl rfl hCn hJ hN hK hP hD hS hA rfl hl.1 rfl (Nat.le_of_ble_eq_true rfl) dL_law_994 hcs (fun Hp locs hP hD hS => ?_)
  refine lv_istore (lv' := (5, .int (kSkill n p1 p2 p3)) :: lwL b x o q x4) hx hb dL_law_997 hl (by decide) rfl (fun ls hl => ?_)
  by_cases hk : (kSkill n p1 p2 p3) = 0
  · rw [if_pos hk] at hP hD
    have M := c_X6_skill (l := l) (D := D) (cI := cI) (cC := cC) (cM := cM) (cB := cB) (cJ := cJ) (q := q) (hi := hi) (tx := T) (pa := pa) (ke := ke) (mr := mr) (hs := hs) (wr := xw0 cI cC cM cB ad z t T (nI nb) r x h ah (nI nx) (nI kp) zh [outC cJ o (vp_updL fo 0 ((if p3 = 0 then z (25 + 16 * cl p1 + cl p2) else ripeP (z (25 + 16 * cl p1 + cl p2)))).toInt64)]) hn hz hB p1 p2 p3
    simp only [xwf, xv, if_pos hk] at M
    refine lv_aload_n hx hb dL_law_999 rfl (lv_at hl 3 rfl) ?_
    refine lv_aload_n hx hb dL_law_1000 rfl (lv_at hl 1 rfl) ?_
    refine lv_iload hx hb dL_law_1001 (lv_at hl 5 rfl) ?_
    refine lv_iconst (v := 1) hx hb dL_law_1003 (by decide) ?_
    refine lv_iadd hx hb dL_law_1004 ?_
    refine z_sld hx hb hX hbl hbA hS s1 dL_law_1005 ?_
    refine lv_aload_n hx hb dL_law_1006 rfl (lv_at hl 1 rfl) ?_
    refine lv_iload hx hb dL_law_1007 (lv_at hl 5 rfl) ?_
    refine lv_iconst (v := 2) hx hb dL_law_1009 (by decide) ?_
    refine lv_iadd hx hb dL_law_1010 ?_
    refine z_sld hx hb hX hbl hbA hS s2 dL_law_1011 ?_
    refine lv_aload_n hx hb dL_law_1012 rfl (lv_at hl 1 rfl) ?_
    refine lv_iload hx hb dL_law_1013 (lv_at hl 5 rfl) ?_
    refine lv_iconst (v := 3) hx hb dL_law_1015 (by decide) ?_
    refine lv_iadd hx hb dL_law_1016 ?_
    refine z_sld hx hb hX hbl hbA hS s3 dL_law_1017 ?_
    refine z_callV1 (n := 3) (As := [.int p1, .int p2, .int p3]) (rest := []) S (zM_perm lw_perm lw_perm.symm M) qm_L_148 ⟨⟨qi_X6_skill, qs_X6_skill, qn_X6, qc_X6_skill⟩, rfl, by decide, by decide, by decide +kernel⟩ ⟨Nat.le_of_ble_eq_true rfl, Nat.le_of_ble_eq_true rfl⟩ rfl rfl hN hK hP hD hS hA 140 rfl rfl rfl hl.1 rfl (Nat.le_of_ble_eq_true rfl) dL_law_1018 hcs (fun Hp locs hP hD hS => ?_)
    have hKt : (upd mr 2 0) 2 = (kSkill n p1 p2 p3) := by rw [hk]; exact upd_eq rfl
    have hKv : (kSkill n p1 p2 p3) = 0 → (vp_updL fo 0 ((if p3 = 0 then z (25 + 16 * cl p1 + cl p2) else ripeP (z (25 + 16 * cl p1 + cl p2)))).toInt64) 0 = ((if p3 = 0 then z (25 + 16 * cl p1 + cl p2) else ripeP (z (25 + 16 * cl p1 + cl p2)))).toInt64 := fun _ => pk_uLs.trans (congrArg Int32.toInt64 (show (if p3 = 0 then z (25 + 16 * cl p1 + cl p2) else ripeP (z (25 + 16 * cl p1 + cl p2))) = (if p3 = 0 then z (25 + 16 * cl p1 + cl p2) else ripeP (z (25 + 16 * cl p1 + cl p2))) from rfl))
    refine lw_tail (o := o) (q := q) (fo := (vp_updL fo 0 ((if p3 = 0 then z (25 + 16 * cl p1 + cl p2) else ripeP (z (25 + 16 * cl p1 + cl p2)))).toInt64)) S (zM_perm lw_perm lw_perm.symm (c_X6_thrown (q := q) (mr := (upd mr 2 0)))) ⟨Nat.le_of_ble_eq_true rfl, Nat.le_of_ble_eq_true rfl⟩ hN hK hP hD hS hA rfl rfl hcs hl hKt hKv dL_law_1021 dL_law_1023 dL_law_1024 dL_law_1027 dL_law_1029 dL_law_1034 dL_law_1036 dL_law_1039 dL_law_1040 dL_law_1041 dL_law_1042 dL_law_1044 dL_law_1045 dL_law_1046 dL_law_1051 (by decide) (fun Hp locs ls hP hD hS hl => ?_)
    exact kk n z zh nx kp hi H T nb r pa ke (upd mr 2 0) hs (vp_updL fo 0 ((if p3 = 0 then z (25 + 16 * cl p1 + cl p2) else ripeP (z (25 + 16 * cl p1 + cl p2)))).toInt64) (lwI_up hI (by omega) (upd_ne (by decide)) (upd_ne (by decide))) Hp locs ls hP hD hS hl
  · rw [if_neg hk] at hP hD
    have M := c_X6_skill (l := l) (D := D) (cI := cI) (cC := cC) (cM := cM) (cB := cB) (cJ := cJ) (q := q) (hi := hi) (tx := T) (pa := pa) (ke := ke) (mr := mr) (hs := hs) (wr := xw0 cI cC cM cB ad z t T (nI nb) r x h ah (nI nx) (nI kp) zh [outC cJ o fo]) hn hz hB p1 p2 p3
    simp only [xwf, xv, if_neg hk] at M
    refine lv_aload_n hx hb dL_law_999 rfl (lv_at hl 3 rfl) ?_
    refine lv_aload_n hx hb dL_law_1000 rfl (lv_at hl 1 rfl) ?_
    refine lv_iload hx hb dL_law_1001 (lv_at hl 5 rfl) ?_
    refine lv_iconst (v := 1) hx hb dL_law_1003 (by decide) ?_
    refine lv_iadd hx hb dL_law_1004 ?_
    refine z_sld hx hb hX hbl hbA hS s1 dL_law_1005 ?_
    refine lv_aload_n hx hb dL_law_1006 rfl (lv_at hl 1 rfl) ?_
    refine lv_iload hx hb dL_law_1007 (lv_at hl 5 rfl) ?_
    refine lv_iconst (v := 2) hx hb dL_law_1009 (by decide) ?_
    refine lv_iadd hx hb dL_law_1010 ?_
    refine z_sld hx hb hX hbl hbA hS s2 dL_law_1011 ?_
    refine lv_aload_n hx hb dL_law_1012 rfl (lv_at hl 1 rfl) ?_
    refine lv_iload hx hb dL_law_1013 (lv_at hl 5 rfl) ?_
    refine lv_iconst (v := 3) hx hb dL_law_1015 (by decide) ?_
    refine lv_iadd hx hb dL_law_1016 ?_
    refine z_sld hx hb hX hbl hbA hS s3 dL_law_1017 ?_
    refine z_callV1 (n := 3) (As := [.int p1, .int p2, .int p3]) (rest := []) S (zM_perm lw_perm lw_perm.symm M) qm_L_148 ⟨⟨qi_X6_skill, qs_X6_skill, qn_X6, qc_X6_skill⟩, rfl, by decide, by decide, by decide +kernel⟩ ⟨Nat.le_of_ble_eq_true rfl, Nat.le_of_ble_eq_true rfl⟩ rfl rfl hN hK hP hD hS hA 140 rfl rfl rfl hl.1 rfl (Nat.le_of_ble_eq_true rfl) dL_law_1018 hcs (fun Hp locs hP hD hS => ?_)
    have hKt : (upd mr 2 (kSkill n p1 p2 p3)) 2 = (kSkill n p1 p2 p3) := upd_eq rfl
    have hKv : (kSkill n p1 p2 p3) = 0 → fo 0 = (0 : Int32).toInt64 := fun h9 => absurd h9 hk
    refine lw_tail (o := o) (q := q) (fo := fo) S (zM_perm lw_perm lw_perm.symm (c_X6_thrown (q := q) (mr := (upd mr 2 (kSkill n p1 p2 p3))))) ⟨Nat.le_of_ble_eq_true rfl, Nat.le_of_ble_eq_true rfl⟩ hN hK hP hD hS hA rfl rfl hcs hl hKt hKv dL_law_1021 dL_law_1023 dL_law_1024 dL_law_1027 dL_law_1029 dL_law_1034 dL_law_1036 dL_law_1039 dL_law_1040 dL_law_1041 dL_law_1042 dL_law_1044 dL_law_1045 dL_law_1046 dL_law_1051 (by decide) (fun Hp locs ls hP hD hS hl => ?_)
    exact kk n z zh nx kp hi H T nb r pa ke (upd mr 2 (kSkill n p1 p2 p3)) hs fo (lwI_up hI (by omega) (upd_ne (by decide)) (upd_ne (by decide))) Hp locs ls hP hD hS hl
set_option maxHeartbeats 4000000 in
set_option maxRecDepth 100000 in
theorem k_count {p : Program} {l : Launch} {e : Env} {s : State} {m : MethodId} {below : List Frame} {meth : Method} {c : Code} {b L : Nat} {xs : Nat → Int32} {D : va_G} {cI cC cM cB cJ : ClassId} {ad t : Nat → Nat} {x : Nat} {h : Nat → Nat} {ah : Nat → Nat → Nat} {q : Nat → Nat} {o : Nat} {x4 : Int32} {C cells slots : Nat} {n : Nat} {z : Nat → Int32} {zh : Nat → Nat → Int32} {nx kp : Nat} {hi : Nat → Int32} {H : Nat → Nat → Int32} {T : Nat → Int32} {nb : Nat} {r pa ke mr : Nat → Int32} {hs : Int64} {fo : Nat → Int64} {Hp : Heap} {locs : List Loc} {ls : Array Slot} {p1 p2 p3 p4 : Int32}  (E : lwEnv p s m meth c b L xs D cI cC cM cB cJ) (hfl : l.stackTraces = false) (hC : C + 10 ≤ 6000) (hC1 : 1 ≤ C) (hI : lwI C n z zh nx kp hi H T nb mr) (hcs : cells + 1 ≤ 601024 ∧ slots + 6 ≤ 7293034) (hP : va_P D vwCl (xw0 cI cC cM cB ad z t T (nI nb) r x h ah (nI nx) (nI kp) zh (outC cJ o fo :: moW cI q z hi T pa ke mr hs [])) Hp) (hD : va_D (fun q : Nat => s.heap.size ≤ q) (xw0 cI cC cM cB ad z t T (nI nb) r x h ah (nI nx) (nI kp) zh (outC cJ o fo :: moW cI q z hi T pa ke mr hs []))) (hS : va_S (fun q : Nat => s.heap.size ≤ q) s.heap Hp locs) (hl : lv_has ls 9 (lwL b x o q x4)) (sc : lwScr xs L x4 p1 p2 p3 p4) (kk : lwK p l e s m below meth c b D cI cC cM cB cJ ad t x h ah q o x4 (C + 10) (cells + 1) (slots + 6)) : W p l e room_1 s m #[Value.ref b] below meth c Hp locs cells slots (lw_Z below #[Value.ref b] s) (F0 m 1054 ls []) := by
  obtain ⟨⟨hx, hb, hr, hml, hown, hts, hX, hbl, hlocks, hgv⟩, hCn, hJ, hN, hK⟩ := id E
  have S : CallFix p m c code 9 s #[Value.ref b] TT RL := ⟨hx, hb, hml, hown, fun w hw => hts w (List.mem_filter.mp hw).1⟩
  have hA : ∀ q : Nat, s.heap.size ≤ q → (fun q : Nat => s.heap.size ≤ q) q := fun _ h => h
  have hbA : ¬ (fun q : Nat => s.heap.size ≤ q) b := Nat.not_le.mpr hbl
  obtain ⟨hR, hH, hnb, hT, hm0, hm1⟩ := id hI
  obtain ⟨hn, hz, hB, -⟩ := id hR
  obtain ⟨hnx, hkp, hBh, -⟩ := id hH
  obtain ⟨s1, s2, s3, s4⟩ := sc
  refine lv_aload_n hx hb dL_law_1054 rfl (lv_at hl 1 rfl) ?_
  refine lv_aload_n hx hb dL_law_1055 rfl (lv_at hl 0 rfl) ?_
  refine lv_iload hx hb dL_law_1056 (lv_at hl 4 rfl) ?_
  refine lv_iconst (v := 1) hx hb dL_law_1058 (by decide) ?_
  refine lv_iadd hx hb dL_law_1059 ?_
  refine z_sld hx hb hX hbl hbA hS s1 dL_law_1060 ?_
  refine lv_aload_n hx hb dL_law_1061 rfl (lv_at hl 3 rfl) ?_
  refine z_callH (n := 3) (As := [.ref x, .int p1, .ref o]) (rest := []) S (c_L_count (fo := fo) (wr := moW cI q z hi T pa ke mr hs []) hfl hn hz p1) qm_L_149 ⟨qt_L_count, qn_L, qw_L_count⟩ ⟨by decide, by decide, by decide +kernel⟩ ⟨Nat.le_of_ble_eq_true rfl, Nat.le_of_ble_eq_true rfl⟩ rfl rfl hCn hJ hN hK hP hD hS hA rfl hl.1 rfl (Nat.le_of_ble_eq_true rfl) dL_law_1062 hcs (fun Hp locs hP hD hS => ?_)
  refine lv_istore (lv' := (5, .int (kCount p1)) :: lwL b x o q x4) hx hb dL_law_1065 hl (by decide) rfl (fun ls hl => ?_)
  by_cases hk : (kCount p1) = 0
  · rw [if_pos hk] at hP hD
    have M := c_X6_count (l := l) (D := D) (cI := cI) (cC := cC) (cM := cM) (cB := cB) (cJ := cJ) (q := q) (hi := hi) (tx := T) (pa := pa) (ke := ke) (mr := mr) (hs := hs) (wr := xw0 cI cC cM cB ad z t T (nI nb) r x h ah (nI nx) (nI kp) zh [outC cJ o (vp_updL fo 0 ((numP z n kp p1)).toInt64)]) hn hz hB (rOK_one hR).1 (rOK_one hR).2 hm0 p1
    simp only [xwf, xv, if_pos hk] at M
    refine lv_aload_n hx hb dL_law_1067 rfl (lv_at hl 3 rfl) ?_
    refine lv_aload_n hx hb dL_law_1068 rfl (lv_at hl 1 rfl) ?_
    refine lv_iload hx hb dL_law_1069 (lv_at hl 5 rfl) ?_
    refine lv_iconst (v := 1) hx hb dL_law_1071 (by decide) ?_
    refine lv_iadd hx hb dL_law_1072 ?_
    refine z_sld hx hb hX hbl hbA hS s1 dL_law_1073 ?_
    refine z_callV1 (n := 1) (As := [.int p1]) (rest := []) S (zM_perm lw_perm lw_perm.symm M) qm_L_151 ⟨⟨qi_X6_count, qs_X6_count, qn_X6, qc_X6_count⟩, rfl, by decide, by decide, by decide +kernel⟩ ⟨Nat.le_of_ble_eq_true rfl, Nat.le_of_ble_eq_true rfl⟩ rfl rfl hN hK hP hD hS hA 140 rfl rfl rfl hl.1 rfl (Nat.le_of_ble_eq_true rfl) dL_law_1074 hcs (fun Hp locs hP hD hS => ?_)
    have hKt : (upd mr 2 0) 2 = (kCount p1) := by rw [hk]; exact upd_eq rfl
    have hKv : (kCount p1) = 0 → (vp_updL fo 0 ((numP z n kp p1)).toInt64) 0 = ((numP z n kp p1)).toInt64 := fun _ => pk_uLs.trans (congrArg Int32.toInt64 (show (numP z n kp p1) = (numP z n kp p1) from rfl))
    refine lw_tail (o := o) (q := q) (fo := (vp_updL fo 0 ((numP z n kp p1)).toInt64)) S (zM_perm lw_perm lw_perm.symm (c_X6_thrown (q := q) (mr := (upd mr 2 0)))) ⟨Nat.le_of_ble_eq_true rfl, Nat.le_of_ble_eq_true rfl⟩ hN hK hP hD hS hA rfl rfl hcs hl hKt hKv dL_law_1077 dL_law_1079 dL_law_1080 dL_law_1083 dL_law_1085 dL_law_1090 dL_law_1092 dL_law_1095 dL_law_1096 dL_law_1097 dL_law_1098 dL_law_1100 dL_law_1101 dL_law_1102 dL_law_1107 (by decide) (fun Hp locs ls hP hD hS hl => ?_)
    exact kk n z zh nx kp hi H T nb r pa ke (upd mr 2 0) hs (vp_updL fo 0 ((numP z n kp p1)).toInt64) (lwI_up hI (by omega) (upd_ne (by decide)) (upd_ne (by decide))) Hp locs ls hP hD hS hl
  · rw [if_neg hk] at hP hD
    have M := c_X6_count (l := l) (D := D) (cI := cI) (cC := cC) (cM := cM) (cB := cB) (cJ := cJ) (q := q) (hi := hi) (tx := T) (pa := pa) (ke := ke) (mr := mr) (hs := hs) (wr := xw0 cI cC cM cB ad z t T (nI nb) r x h ah (nI nx) (nI kp) zh [outC cJ o fo]) hn hz hB (rOK_one hR).1 (rOK_one hR).2 hm0 p1
    simp only [xwf, xv, if_neg hk] at M
    refine lv_aload_n hx hb dL_law_1067 rfl (lv_at hl 3 rfl) ?_
    refine lv_aload_n hx hb dL_law_1068 rfl (lv_at hl 1 rfl) ?_
    refine lv_iload hx hb dL_law_1069 (lv_at hl 5 rfl) ?_
    refine lv_iconst (v := 1) hx hb dL_law_1071 (by decide) ?_
    refine lv_iadd hx hb dL_law_1072 ?_
    refine z_sld hx hb hX hbl hbA hS s1 dL_law_1073 ?_
    refine z_callV1 (n := 1) (As := [.int p1]) (rest := []) S (zM_perm lw_perm lw_perm.symm M) qm_L_151 ⟨⟨qi_X6_count, qs_X6_count, qn_X6, qc_X6_count⟩, rfl, by decide, by decide, by decide +kernel⟩ ⟨Nat.le_of_ble_eq_true rfl, Nat.le_of_ble_eq_true rfl⟩ rfl rfl hN hK hP hD hS hA 140 rfl rfl rfl hl.1 rfl (Nat.le_of_ble_eq_true rfl) dL_law_1074 hcs (fun Hp locs hP hD hS => ?_)
    have hKt : (upd mr 2 (kCount p1)) 2 = (kCount p1) := upd_eq rfl
    have hKv : (kCount p1) = 0 → fo 0 = (0 : Int32).toInt64 := fun h9 => absurd h9 hk
    refine lw_tail (o := o) (q := q) (fo := fo) S (zM_perm lw_perm lw_perm.symm (c_X6_thrown (q := q) (mr := (upd mr 2 (kCount p1))))) ⟨Nat.le_of_ble_eq_true rfl, Nat.le_of_ble_eq_true rfl⟩ hN hK hP hD hS hA rfl rfl hcs hl hKt hKv dL_law_1077 dL_law_1079 dL_law_1080 dL_law_1083 dL_law_1085 dL_law_1090 dL_law_1092 dL_law_1095 dL_law_1096 dL_law_1097 dL_law_1098 dL_law_1100 dL_law_1101 dL_law_1102 dL_law_1107 (by decide) (fun Hp locs ls hP hD hS hl => ?_)
    exact kk n z zh nx kp hi H T nb r pa ke (upd mr 2 (kCount p1)) hs fo (lwI_up hI (by omega) (upd_ne (by decide)) (upd_ne (by decide))) Hp locs ls hP hD hS hl
set_option maxHeartbeats 4000000 in
set_option maxRecDepth 100000 in
theorem k_setting {p : Program} {l : Launch} {e : Env} {s : State} {m : MethodId} {below : List Frame} {meth : Method} {c : Code} {b L : Nat} {xs : Nat → Int32} {D : va_G} {cI cC cM cB cJ : ClassId} {ad t : Nat → Nat} {x : Nat} {h : Nat → Nat} {ah : Nat → Nat → Nat} {q : Nat → Nat} {o : Nat} {x4 : Int32} {C cells slots : Nat} {n : Nat} {z : Nat → Int32} {zh : Nat → Nat → Int32} {nx kp : Nat} {hi : Nat → Int32} {H : Nat → Nat → Int32} {T : Nat → Int32} {nb : Nat} {r pa ke mr : Nat → Int32} {hs : Int64} {fo : Nat → Int64} {Hp : Heap} {locs : List Loc} {ls : Array Slot} {p1 p2 p3 p4 : Int32}  (E : lwEnv p s m meth c b L xs D cI cC cM cB cJ) (hfl : l.stackTraces = false) (hC : C + 10 ≤ 6000) (hC1 : 1 ≤ C) (hI : lwI C n z zh nx kp hi H T nb mr) (hcs : cells + 1 ≤ 601024 ∧ slots + 6 ≤ 7293034) (hP : va_P D vwCl (xw0 cI cC cM cB ad z t T (nI nb) r x h ah (nI nx) (nI kp) zh (outC cJ o fo :: moW cI q z hi T pa ke mr hs [])) Hp) (hD : va_D (fun q : Nat => s.heap.size ≤ q) (xw0 cI cC cM cB ad z t T (nI nb) r x h ah (nI nx) (nI kp) zh (outC cJ o fo :: moW cI q z hi T pa ke mr hs []))) (hS : va_S (fun q : Nat => s.heap.size ≤ q) s.heap Hp locs) (hl : lv_has ls 9 (lwL b x o q x4)) (sc : lwScr xs L x4 p1 p2 p3 p4) (kk : lwK p l e s m below meth c b D cI cC cM cB cJ ad t x h ah q o x4 (C + 10) (cells + 1) (slots + 6)) : W p l e room_1 s m #[Value.ref b] below meth c Hp locs cells slots (lw_Z below #[Value.ref b] s) (F0 m 1110 ls []) := by
  obtain ⟨⟨hx, hb, hr, hml, hown, hts, hX, hbl, hlocks, hgv⟩, hCn, hJ, hN, hK⟩ := id E
  have S : CallFix p m c code 9 s #[Value.ref b] TT RL := ⟨hx, hb, hml, hown, fun w hw => hts w (List.mem_filter.mp hw).1⟩
  have hA : ∀ q : Nat, s.heap.size ≤ q → (fun q : Nat => s.heap.size ≤ q) q := fun _ h => h
  have hbA : ¬ (fun q : Nat => s.heap.size ≤ q) b := Nat.not_le.mpr hbl
  obtain ⟨hR, hH, hnb, hT, hm0, hm1⟩ := id hI
  obtain ⟨hn, hz, hB, -⟩ := id hR
  obtain ⟨hnx, hkp, hBh, -⟩ := id hH
  obtain ⟨s1, s2, s3, s4⟩ := sc
  refine lv_aload_n hx hb dL_law_1110 rfl (lv_at hl 1 rfl) ?_
  refine lv_aload_n hx hb dL_law_1111 rfl (lv_at hl 0 rfl) ?_
  refine lv_iload hx hb dL_law_1112 (lv_at hl 4 rfl) ?_
  refine lv_iconst (v := 1) hx hb dL_law_1114 (by decide) ?_
  refine lv_iadd hx hb dL_law_1115 ?_
  refine z_sld hx hb hX hbl hbA hS s1 dL_law_1116 ?_
  refine lv_aload_n hx hb dL_law_1117 rfl (lv_at hl 3 rfl) ?_
  refine z_callH (n := 3) (As := [.ref x, .int p1, .ref o]) (rest := []) S (c_L_setting (fo := fo) (wr := moW cI q z hi T pa ke mr hs []) hfl p1) qm_L_152 ⟨qt_L_setting, qn_L, qw_L_setting⟩ ⟨by decide, by decide, by decide +kernel⟩ ⟨Nat.le_of_ble_eq_true rfl, Nat.le_of_ble_eq_true rfl⟩ rfl rfl hCn hJ hN hK hP hD hS hA rfl hl.1 rfl (Nat.le_of_ble_eq_true rfl) dL_law_1118 hcs (fun Hp locs hP hD hS => ?_)
  refine lv_istore (lv' := (5, .int (kSetting p1)) :: lwL b x o q x4) hx hb dL_law_1121 hl (by decide) rfl (fun ls hl => ?_)
  by_cases hk : (kSetting p1) = 0
  · rw [if_pos hk] at hP hD
    have M := c_X6_setting (l := l) (D := D) (cI := cI) (cC := cC) (cM := cM) (cB := cB) (cJ := cJ) (q := q) (z := z) (hi := hi) (tx := T) (pa := pa) (ke := ke) (mr := mr) (hs := hs) (wr := xw0 cI cC cM cB ad z t T (nI nb) r x h ah (nI nx) (nI kp) zh [outC cJ o (vp_updL fo 0 ((z (cl p1))).toInt64)]) p1
    simp only [xwf, xv, if_pos hk] at M
    refine lv_aload_n hx hb dL_law_1123 rfl (lv_at hl 3 rfl) ?_
    refine lv_aload_n hx hb dL_law_1124 rfl (lv_at hl 1 rfl) ?_
    refine lv_iload hx hb dL_law_1125 (lv_at hl 5 rfl) ?_
    refine lv_iconst (v := 1) hx hb dL_law_1127 (by decide) ?_
    refine lv_iadd hx hb dL_law_1128 ?_
    refine z_sld hx hb hX hbl hbA hS s1 dL_law_1129 ?_
    refine z_callV1 (n := 1) (As := [.int p1]) (rest := []) S (zM_perm lw_perm lw_perm.symm M) qm_L_154 ⟨⟨qi_X6_setting, qs_X6_setting, qn_X6, qc_X6_setting⟩, rfl, by decide, by decide, by decide +kernel⟩ ⟨Nat.le_of_ble_eq_true rfl, Nat.le_of_ble_eq_true rfl⟩ rfl rfl hN hK hP hD hS hA 140 rfl rfl rfl hl.1 rfl (Nat.le_of_ble_eq_true rfl) dL_law_1130 hcs (fun Hp locs hP hD hS => ?_)
    have hKt : (upd mr 2 0) 2 = (kSetting p1) := by rw [hk]; exact upd_eq rfl
    have hKv : (kSetting p1) = 0 → (vp_updL fo 0 ((z (cl p1))).toInt64) 0 = ((z (cl p1))).toInt64 := fun _ => pk_uLs.trans (congrArg Int32.toInt64 (show (z (cl p1)) = (z (cl p1)) from rfl))
    refine lw_tail (o := o) (q := q) (fo := (vp_updL fo 0 ((z (cl p1))).toInt64)) S (zM_perm lw_perm lw_perm.symm (c_X6_thrown (q := q) (mr := (upd mr 2 0)))) ⟨Nat.le_of_ble_eq_true rfl, Nat.le_of_ble_eq_true rfl⟩ hN hK hP hD hS hA rfl rfl hcs hl hKt hKv dL_law_1133 dL_law_1135 dL_law_1136 dL_law_1139 dL_law_1141 dL_law_1146 dL_law_1148 dL_law_1151 dL_law_1152 dL_law_1153 dL_law_1154 dL_law_1156 dL_law_1157 dL_law_1158 dL_law_1163 (by decide) (fun Hp locs ls hP hD hS hl => ?_)
    exact kk n z zh nx kp hi H T nb r pa ke (upd mr 2 0) hs (vp_updL fo 0 ((z (cl p1))).toInt64) (lwI_up hI (by omega) (upd_ne (by decide)) (upd_ne (by decide))) Hp locs ls hP hD hS hl
  · rw [if_neg hk] at hP hD
    have M := c_X6_setting (l := l) (D := D) (cI := cI) (cC := cC) (cM := cM) (cB := cB) (cJ := cJ) (q := q) (z := z) (hi := hi) (tx := T) (pa := pa) (ke := ke) (mr := mr) (hs := hs) (wr := xw0 cI cC cM cB ad z t T (nI nb) r x h ah (nI nx) (nI kp) zh [outC cJ o fo]) p1
    simp only [xwf, xv, if_neg hk] at M
    refine lv_aload_n hx hb dL_law_1123 rfl (lv_at hl 3 rfl) ?_
    refine lv_aload_n hx hb dL_law_1124 rfl (lv_at hl 1 rfl) ?_
    refine lv_iload hx hb dL_law_1125 (lv_at hl 5 rfl) ?_
    refine lv_iconst (v := 1) hx hb dL_law_1127 (by decide) ?_
    refine lv_iadd hx hb dL_law_1128 ?_
    refine z_sld hx hb hX hbl hbA hS s1 dL_law_1129 ?_
    refine z_callV1 (n := 1) (As := [.int p1]) (rest := []) S (zM_perm lw_perm lw_perm.symm M) qm_L_154 ⟨⟨qi_X6_setting, qs_X6_setting, qn_X6, qc_X6_setting⟩, rfl, by decide, by decide, by decide +kernel⟩ ⟨Nat.le_of_ble_eq_true rfl, Nat.le_of_ble_eq_true rfl⟩ rfl rfl hN hK hP hD hS hA 140 rfl rfl rfl hl.1 rfl (Nat.le_of_ble_eq_true rfl) dL_law_1130 hcs (fun Hp locs hP hD hS => ?_)
    have hKt : (upd mr 2 (kSetting p1)) 2 = (kSetting p1) := upd_eq rfl
    have hKv : (kSetting p1) = 0 → fo 0 = (0 : Int32).toInt64 := fun h9 => absurd h9 hk
    refine lw_tail (o := o) (q := q) (fo := fo) S (zM_perm lw_perm lw_perm.symm (c_X6_thrown (q := q) (mr := (upd mr 2 (kSetting p1))))) ⟨Nat.le_of_ble_eq_true rfl, Nat.le_of_ble_eq_true rfl⟩ hN hK hP hD hS hA rfl rfl hcs hl hKt hKv dL_law_1133 dL_law_1135 dL_law_1136 dL_law_1139 dL_law_1141 dL_law_1146 dL_law_1148 dL_law_1151 dL_law_1152 dL_law_1153 dL_law_1154 dL_law_1156 dL_law_1157 dL_law_1158 dL_law_1163 (by decide) (fun Hp locs ls hP hD hS hl => ?_)
    exact kk n z zh nx kp hi H T nb r pa ke (upd mr 2 (kSetting p1)) hs fo (lwI_up hI (by omega) (upd_ne (by decide)) (upd_ne (by decide))) Hp locs ls hP hD hS hl
set_option maxHeartbeats 4000000 in
set_option maxRecDepth 100000 in
theorem k_worth {p : Program} {l : Launch} {e : Env} {s : State} {m : MethodId} {below : List Frame} {meth : Method} {c : Code} {b L : Nat} {xs : Nat → Int32} {D : va_G} {cI cC cM cB cJ : ClassId} {ad t : Nat → Nat} {x : Nat} {h : Nat → Nat} {ah : Nat → Nat → Nat} {q : Nat → Nat} {o : Nat} {x4 : Int32} {C cells slots : Nat} {n : Nat} {z : Nat → Int32} {zh : Nat → Nat → Int32} {nx kp : Nat} {hi : Nat → Int32} {H : Nat → Nat → Int32} {T : Nat → Int32} {nb : Nat} {r pa ke mr : Nat → Int32} {hs : Int64} {fo : Nat → Int64} {Hp : Heap} {locs : List Loc} {ls : Array Slot} {p1 p2 p3 p4 : Int32}  (E : lwEnv p s m meth c b L xs D cI cC cM cB cJ) (hfl : l.stackTraces = false) (hC : C + 10 ≤ 6000) (hC1 : 1 ≤ C) (hI : lwI C n z zh nx kp hi H T nb mr) (hcs : cells + 1 ≤ 601024 ∧ slots + 6 ≤ 7293034) (hP : va_P D vwCl (xw0 cI cC cM cB ad z t T (nI nb) r x h ah (nI nx) (nI kp) zh (outC cJ o fo :: moW cI q z hi T pa ke mr hs [])) Hp) (hD : va_D (fun q : Nat => s.heap.size ≤ q) (xw0 cI cC cM cB ad z t T (nI nb) r x h ah (nI nx) (nI kp) zh (outC cJ o fo :: moW cI q z hi T pa ke mr hs []))) (hS : va_S (fun q : Nat => s.heap.size ≤ q) s.heap Hp locs) (hl : lv_has ls 9 (lwL b x o q x4)) (sc : lwScr xs L x4 p1 p2 p3 p4) (kk : lwK p l e s m below meth c b D cI cC cM cB cJ ad t x h ah q o x4 (C + 10) (cells + 1) (slots + 6)) : W p l e room_1 s m #[Value.ref b] below meth c Hp locs cells slots (lw_Z below #[Value.ref b] s) (F0 m 1166 ls []) := by
  obtain ⟨⟨hx, hb, hr, hml, hown, hts, hX, hbl, hlocks, hgv⟩, hCn, hJ, hN, hK⟩ := id E
  have S : CallFix p m c code 9 s #[Value.ref b] TT RL := ⟨hx, hb, hml, hown, fun w hw => hts w (List.mem_filter.mp hw).1⟩
  have hA : ∀ q : Nat, s.heap.size ≤ q → (fun q : Nat => s.heap.size ≤ q) q := fun _ h => h
  have hbA : ¬ (fun q : Nat => s.heap.size ≤ q) b := Nat.not_le.mpr hbl
  obtain ⟨hR, hH, hnb, hT, hm0, hm1⟩ := id hI
  obtain ⟨hn, hz, hB, -⟩ := id hR
  obtain ⟨hnx, hkp, hBh, -⟩ := id hH
  obtain ⟨s1, s2, s3, s4⟩ := sc
  refine lv_aload_n hx hb dL_law_1166 rfl (lv_at hl 1 rfl) ?_
  refine lv_aload_n hx hb dL_law_1167 rfl (lv_at hl 0 rfl) ?_
  refine lv_iload hx hb dL_law_1168 (lv_at hl 4 rfl) ?_
  refine lv_iconst (v := 1) hx hb dL_law_1170 (by decide) ?_
  refine lv_iadd hx hb dL_law_1171 ?_
  refine z_sld hx hb hX hbl hbA hS s1 dL_law_1172 ?_
  refine lv_aload_n hx hb dL_law_1173 rfl (lv_at hl 0 rfl) ?_
  refine lv_iload hx hb dL_law_1174 (lv_at hl 4 rfl) ?_
  refine lv_iconst (v := 2) hx hb dL_law_1176 (by decide) ?_
  refine lv_iadd hx hb dL_law_1177 ?_
  refine z_sld hx hb hX hbl hbA hS s2 dL_law_1178 ?_
  refine lv_aload_n hx hb dL_law_1179 rfl (lv_at hl 0 rfl) ?_
  refine lv_iload hx hb dL_law_1180 (lv_at hl 4 rfl) ?_
  refine lv_iconst (v := 3) hx hb dL_law_1182 (by decide) ?_
  refine lv_iadd hx hb dL_law_1183 ?_
  refine z_sld hx hb hX hbl hbA hS s3 dL_law_1184 ?_
  refine lv_aload_n hx hb dL_law_1185 rfl (lv_at hl 3 rfl) ?_
  refine z_callH (n := 5) (As := [.ref x, .int p1, .int p2, .int p3, .ref o]) (rest := []) S (c_L_worth (fo := fo) (wr := moW cI q z hi T pa ke mr hs []) hfl hn hz p1 p2 p3) qm_L_155 ⟨qt_L_worth, qn_L, qw_L_worth⟩ ⟨by decide, by decide, by decide +kernel⟩ ⟨Nat.le_of_ble_eq_true rfl, Nat.le_of_ble_eq_true rfl⟩ rfl rfl hCn hJ hN hK hP hD hS hA rfl hl.1 rfl (Nat.le_of_ble_eq_true rfl) dL_law_1186 hcs (fun Hp locs hP hD hS => ?_)
  refine lv_istore (lv' := (5, .int (kWorth n p1 p2 p3)) :: lwL b x o q x4) hx hb dL_law_1189 hl (by decide) rfl (fun ls hl => ?_)
  by_cases hk : (kWorth n p1 p2 p3) = 0
  · rw [if_pos hk] at hP hD
    have M := c_X6_worth (l := l) (D := D) (cI := cI) (cC := cC) (cM := cM) (cB := cB) (cJ := cJ) (q := q) (hi := hi) (tx := T) (pa := pa) (ke := ke) (mr := mr) (hs := hs) (wr := xw0 cI cC cM cB ad z t T (nI nb) r x h ah (nI nx) (nI kp) zh [outC cJ o (vp_updL fo 0 ((valP (z (25 + 16 * cl p1 + cl p2)) p3)).toInt64)]) hn hz hB p1 p2 p3
    simp only [xwf, xv, if_pos hk] at M
    refine lv_aload_n hx hb dL_law_1191 rfl (lv_at hl 3 rfl) ?_
    refine lv_aload_n hx hb dL_law_1192 rfl (lv_at hl 1 rfl) ?_
    refine lv_iload hx hb dL_law_1193 (lv_at hl 5 rfl) ?_
    refine lv_iconst (v := 1) hx hb dL_law_1195 (by decide) ?_
    refine lv_iadd hx hb dL_law_1196 ?_
    refine z_sld hx hb hX hbl hbA hS s1 dL_law_1197 ?_
    refine lv_aload_n hx hb dL_law_1198 rfl (lv_at hl 1 rfl) ?_
    refine lv_iload hx hb dL_law_1199 (lv_at hl 5 rfl) ?_
    refine lv_iconst (v := 2) hx hb dL_law_1201 (by decide) ?_
    refine lv_iadd hx hb dL_law_1202 ?_
    refine z_sld hx hb hX hbl hbA hS s2 dL_law_1203 ?_
    refine lv_aload_n hx hb dL_law_1204 rfl (lv_at hl 1 rfl) ?_
    refine lv_iload hx hb dL_law_1205 (lv_at hl 5 rfl) ?_
    refine lv_iconst (v := 3) hx hb dL_law_1207 (by decide) ?_
    refine lv_iadd hx hb dL_law_1208 ?_
    refine z_sld hx hb hX hbl hbA hS s3 dL_law_1209 ?_
    refine z_callV1 (n := 3) (As := [.int p1, .int p2, .int p3]) (rest := []) S (zM_perm lw_perm lw_perm.symm M) qm_L_157 ⟨⟨qi_X6_worth, qs_X6_worth, qn_X6, qc_X6_worth⟩, rfl, by decide, by decide, by decide +kernel⟩ ⟨Nat.le_of_ble_eq_true rfl, Nat.le_of_ble_eq_true rfl⟩ rfl rfl hN hK hP hD hS hA 140 rfl rfl rfl hl.1 rfl (Nat.le_of_ble_eq_true rfl) dL_law_1210 hcs (fun Hp locs hP hD hS => ?_)
    have hKt : (upd mr 2 0) 2 = (kWorth n p1 p2 p3) := by rw [hk]; exact upd_eq rfl
    have hKv : (kWorth n p1 p2 p3) = 0 → (vp_updL fo 0 ((valP (z (25 + 16 * cl p1 + cl p2)) p3)).toInt64) 0 = ((valP (z (25 + 16 * cl p1 + cl p2)) p3)).toInt64 := fun _ => pk_uLs.trans (congrArg Int32.toInt64 (show (valP (z (25 + 16 * cl p1 + cl p2)) p3) = (valP (z (25 + 16 * cl p1 + cl p2)) p3) from rfl))
    refine lw_tail (o := o) (q := q) (fo := (vp_updL fo 0 ((valP (z (25 + 16 * cl p1 + cl p2)) p3)).toInt64)) S (zM_perm lw_perm lw_perm.symm (c_X6_thrown (q := q) (mr := (upd mr 2 0)))) ⟨Nat.le_of_ble_eq_true rfl, Nat.le_of_ble_eq_true rfl⟩ hN hK hP hD hS hA rfl rfl hcs hl hKt hKv dL_law_1213 dL_law_1215 dL_law_1216 dL_law_1219 dL_law_1221 dL_law_1226 dL_law_1228 dL_law_1231 dL_law_1232 dL_law_1233 dL_law_1234 dL_law_1236 dL_law_1237 dL_law_1238 dL_law_1243 (by decide) (fun Hp locs ls hP hD hS hl => ?_)
    exact kk n z zh nx kp hi H T nb r pa ke (upd mr 2 0) hs (vp_updL fo 0 ((valP (z (25 + 16 * cl p1 + cl p2)) p3)).toInt64) (lwI_up hI (by omega) (upd_ne (by decide)) (upd_ne (by decide))) Hp locs ls hP hD hS hl
  · rw [if_neg hk] at hP hD
    have M := c_X6_worth (l := l) (D := D) (cI := cI) (cC := cC) (cM := cM) (cB := cB) (cJ := cJ) (q := q) (hi := hi) (tx := T) (pa := pa) (ke := ke) (mr := mr) (hs := hs) (wr := xw0 cI cC cM cB ad z t T (nI nb) r x h ah (nI nx) (nI kp) zh [outC cJ o fo]) hn hz hB p1 p2 p3
    simp only [xwf, xv, if_neg hk] at M
    refine lv_aload_n hx hb dL_law_1191 rfl (lv_at hl 3 rfl) ?_
    refine lv_aload_n hx hb dL_law_1192 rfl (lv_at hl 1 rfl) ?_
    refine lv_iload hx hb dL_law_1193 (lv_at hl 5 rfl) ?_
    refine lv_iconst (v := 1) hx hb dL_law_1195 (by decide) ?_
    refine lv_iadd hx hb dL_law_1196 ?_
    refine z_sld hx hb hX hbl hbA hS s1 dL_law_1197 ?_
    refine lv_aload_n hx hb dL_law_1198 rfl (lv_at hl 1 rfl) ?_
    refine lv_iload hx hb dL_law_1199 (lv_at hl 5 rfl) ?_
    refine lv_iconst (v := 2) hx hb dL_law_1201 (by decide) ?_
    refine lv_iadd hx hb dL_law_1202 ?_
    refine z_sld hx hb hX hbl hbA hS s2 dL_law_1203 ?_
    refine lv_aload_n hx hb dL_law_1204 rfl (lv_at hl 1 rfl) ?_
    refine lv_iload hx hb dL_law_1205 (lv_at hl 5 rfl) ?_
    refine lv_iconst (v := 3) hx hb dL_law_1207 (by decide) ?_
    refine lv_iadd hx hb dL_law_1208 ?_
    refine z_sld hx hb hX hbl hbA hS s3 dL_law_1209 ?_
    refine z_callV1 (n := 3) (As := [.int p1, .int p2, .int p3]) (rest := []) S (zM_perm lw_perm lw_perm.symm M) qm_L_157 ⟨⟨qi_X6_worth, qs_X6_worth, qn_X6, qc_X6_worth⟩, rfl, by decide, by decide, by decide +kernel⟩ ⟨Nat.le_of_ble_eq_true rfl, Nat.le_of_ble_eq_true rfl⟩ rfl rfl hN hK hP hD hS hA 140 rfl rfl rfl hl.1 rfl (Nat.le_of_ble_eq_true rfl) dL_law_1210 hcs (fun Hp locs hP hD hS => ?_)
    have hKt : (upd mr 2 (kWorth n p1 p2 p3)) 2 = (kWorth n p1 p2 p3) := upd_eq rfl
    have hKv : (kWorth n p1 p2 p3) = 0 → fo 0 = (0 : Int32).toInt64 := fun h9 => absurd h9 hk
    refine lw_tail (o := o) (q := q) (fo := fo) S (zM_perm lw_perm lw_perm.symm (c_X6_thrown (q := q) (mr := (upd mr 2 (kWorth n p1 p2 p3))))) ⟨Nat.le_of_ble_eq_true rfl, Nat.le_of_ble_eq_true rfl⟩ hN hK hP hD hS hA rfl rfl hcs hl hKt hKv dL_law_1213 dL_law_1215 dL_law_1216 dL_law_1219 dL_law_1221 dL_law_1226 dL_law_1228 dL_law_1231 dL_law_1232 dL_law_1233 dL_law_1234 dL_law_1236 dL_law_1237 dL_law_1238 dL_law_1243 (by decide) (fun Hp locs ls hP hD hS hl => ?_)
    exact kk n z zh nx kp hi H T nb r pa ke (upd mr 2 (kWorth n p1 p2 p3)) hs fo (lwI_up hI (by omega) (upd_ne (by decide)) (upd_ne (by decide))) Hp locs ls hP hD hS hl
set_option maxHeartbeats 4000000 in
set_option maxRecDepth 100000 in
theorem k_longest {p : Program} {l : Launch} {e : Env} {s : State} {m : MethodId} {below : List Frame} {meth : Method} {c : Code} {b L : Nat} {xs : Nat → Int32} {D : va_G} {cI cC cM cB cJ : ClassId} {ad t : Nat → Nat} {x : Nat} {h : Nat → Nat} {ah : Nat → Nat → Nat} {q : Nat → Nat} {o : Nat} {x4 : Int32} {C cells slots : Nat} {n : Nat} {z : Nat → Int32} {zh : Nat → Nat → Int32} {nx kp : Nat} {hi : Nat → Int32} {H : Nat → Nat → Int32} {T : Nat → Int32} {nb : Nat} {r pa ke mr : Nat → Int32} {hs : Int64} {fo : Nat → Int64} {Hp : Heap} {locs : List Loc} {ls : Array Slot} {p1 p2 p3 p4 : Int32}  (E : lwEnv p s m meth c b L xs D cI cC cM cB cJ) (hfl : l.stackTraces = false) (hC : C + 10 ≤ 6000) (hC1 : 1 ≤ C) (hI : lwI C n z zh nx kp hi H T nb mr) (hcs : cells + 1 ≤ 601024 ∧ slots + 6 ≤ 7293034) (hP : va_P D vwCl (xw0 cI cC cM cB ad z t T (nI nb) r x h ah (nI nx) (nI kp) zh (outC cJ o fo :: moW cI q z hi T pa ke mr hs [])) Hp) (hD : va_D (fun q : Nat => s.heap.size ≤ q) (xw0 cI cC cM cB ad z t T (nI nb) r x h ah (nI nx) (nI kp) zh (outC cJ o fo :: moW cI q z hi T pa ke mr hs []))) (hS : va_S (fun q : Nat => s.heap.size ≤ q) s.heap Hp locs) (hl : lv_has ls 9 (lwL b x o q x4)) (sc : lwScr xs L x4 p1 p2 p3 p4) (kk : lwK p l e s m below meth c b D cI cC cM cB cJ ad t x h ah q o x4 (C + 10) (cells + 1) (slots + 6)) : W p l e room_1 s m #[Value.ref b] below meth c Hp locs cells slots (lw_Z below #[Value.ref b] s) (F0 m 1246 ls []) := by
  obtain ⟨⟨hx, hb, hr, hml, hown, hts, hX, hbl, hlocks, hgv⟩, hCn, hJ, hN, hK⟩ := id E
  have S : CallFix p m c code 9 s #[Value.ref b] TT RL := ⟨hx, hb, hml, hown, fun w hw => hts w (List.mem_filter.mp hw).1⟩
  have hA : ∀ q : Nat, s.heap.size ≤ q → (fun q : Nat => s.heap.size ≤ q) q := fun _ h => h
  have hbA : ¬ (fun q : Nat => s.heap.size ≤ q) b := Nat.not_le.mpr hbl
  obtain ⟨hR, hH, hnb, hT, hm0, hm1⟩ := id hI
  obtain ⟨hn, hz, hB, -⟩ := id hR
  obtain ⟨hnx, hkp, hBh, -⟩ := id hH
  obtain ⟨s1, s2, s3, s4⟩ := sc
  refine lv_aload_n hx hb dL_law_1246 rfl (lv_at hl 1 rfl) ?_
  refine lv_aload_n hx hb dL_law_1247 rfl (lv_at hl 0 rfl) ?_
  refine lv_iload hx hb dL_law_1248 (lv_at hl 4 rfl) ?_
  refine lv_iconst (v := 1) hx hb dL_law_1250 (by decide) ?_
  refine lv_iadd hx hb dL_law_1251 ?_
  refine z_sld hx hb hX hbl hbA hS s1 dL_law_1252 ?_
  refine lv_aload_n hx hb dL_law_1253 rfl (lv_at hl 0 rfl) ?_
  refine lv_iload hx hb dL_law_1254 (lv_at hl 4 rfl) ?_
  refine lv_iconst (v := 2) hx hb dL_law_1256 (by decide) ?_
  refine lv_iadd hx hb dL_law_1257 ?_
  refine z_sld hx hb hX hbl hbA hS s2 dL_law_1258 ?_
  refine lv_aload_n hx hb dL_law_1259 rfl (lv_at hl 0 rfl) ?_
  refine lv_iload hx hb dL_law_1260 (lv_at hl 4 rfl) ?_
  refine lv_iconst (v := 3) hx hb dL_law_1262 (by decide) ?_
  refine lv_iadd hx hb dL_law_1263 ?_
  refine z_sld hx hb hX hbl hbA hS s3 dL_law_1264 ?_
  refine lv_aload_n hx hb dL_law_1265 rfl (lv_at hl 3 rfl) ?_
  refine z_callH (n := 5) (As := [.ref x, .int p1, .int p2, .int p3, .ref o]) (rest := []) S (c_L_longest (fo := fo) (wr := moW cI q z hi T pa ke mr hs []) hfl hn hz p1 p2 p3) qm_L_158 ⟨qt_L_longest, qn_L, qw_L_longest⟩ ⟨by decide, by decide, by decide +kernel⟩ ⟨Nat.le_of_ble_eq_true rfl, Nat.le_of_ble_eq_true rfl⟩ rfl rfl hCn hJ hN hK hP hD hS hA rfl hl.1 rfl (Nat.le_of_ble_eq_true rfl) dL_law_1266 hcs (fun Hp locs hP hD hS => ?_)
  refine lv_istore (lv' := (5, .int (kLongest n p1 p2 p3)) :: lwL b x o q x4) hx hb dL_law_1269 hl (by decide) rfl (fun ls hl => ?_)
  by_cases hk : (kLongest n p1 p2 p3) = 0
  · rw [if_pos hk] at hP hD
    obtain ⟨a1, a2, a3⟩ := k0_longest hk
    obtain ⟨g1, g2⟩ := mP_j hn a1
    obtain ⟨t1, t2⟩ := mP_j hn a2
    obtain ⟨k1, k2⟩ := sP_j a3
    have M := c_X6_longest (l := l) (D := D) (cI := cI) (cC := cC) (cM := cM) (cB := cB) (cJ := cJ) (q := q) (hi := hi) (tx := T) (pa := pa) (ke := ke) (mr := mr) (hs := hs) (wr := xw0 cI cC cM cB ad z t T (nI nb) r x h ah (nI nx) (nI kp) zh [outC cJ o (vp_updL fo 0 ((lngP z (cl p1) (cl p2) (cl p3))).toInt64)]) hn hz hB p1 p2 p3
    simp only [xwf, xv, if_pos hk] at M
    refine lv_aload_n hx hb dL_law_1271 rfl (lv_at hl 3 rfl) ?_
    refine lv_aload_n hx hb dL_law_1272 rfl (lv_at hl 1 rfl) ?_
    refine lv_iload hx hb dL_law_1273 (lv_at hl 5 rfl) ?_
    refine lv_iconst (v := 1) hx hb dL_law_1275 (by decide) ?_
    refine lv_iadd hx hb dL_law_1276 ?_
    refine z_sld hx hb hX hbl hbA hS s1 dL_law_1277 ?_
    refine lv_aload_n hx hb dL_law_1278 rfl (lv_at hl 1 rfl) ?_
    refine lv_iload hx hb dL_law_1279 (lv_at hl 5 rfl) ?_
    refine lv_iconst (v := 2) hx hb dL_law_1281 (by decide) ?_
    refine lv_iadd hx hb dL_law_1282 ?_
    refine z_sld hx hb hX hbl hbA hS s2 dL_law_1283 ?_
    refine lv_aload_n hx hb dL_law_1284 rfl (lv_at hl 1 rfl) ?_
    refine lv_iload hx hb dL_law_1285 (lv_at hl 5 rfl) ?_
    refine lv_iconst (v := 3) hx hb dL_law_1287 (by decide) ?_
    refine lv_iadd hx hb dL_law_1288 ?_
    refine z_sld hx hb hX hbl hbA hS s3 dL_law_1289 ?_
    refine z_callV1 (n := 3) (As := [.int p1, .int p2, .int p3]) (rest := []) S (zM_perm lw_perm lw_perm.symm M) qm_L_160 ⟨⟨qi_X6_longest, qs_X6_longest, qn_X6, qc_X6_longest⟩, rfl, by decide, by decide, by decide +kernel⟩ ⟨Nat.le_of_ble_eq_true rfl, Nat.le_of_ble_eq_true rfl⟩ rfl rfl hN hK hP hD hS hA 140 rfl rfl rfl hl.1 rfl (Nat.le_of_ble_eq_true rfl) dL_law_1290 hcs (fun Hp locs hP hD hS => ?_)
    have hKt : (upd mr 2 0) 2 = (kLongest n p1 p2 p3) := by rw [hk]; exact upd_eq rfl
    have hKv : (kLongest n p1 p2 p3) = 0 → (vp_updL fo 0 ((lngP z (cl p1) (cl p2) (cl p3))).toInt64) 0 = ((lgM z (cl p1) (cl p2) (cl p3) 600)).toInt64 := fun _ => pk_uLs.trans (congrArg Int32.toInt64 (show (lngP z (cl p1) (cl p2) (cl p3)) = (lgM z (cl p1) (cl p2) (cl p3) 600) from (lg_ok (by omega) hR (by omega) (by omega) k1).symm))
    refine lw_tail (o := o) (q := q) (fo := (vp_updL fo 0 ((lngP z (cl p1) (cl p2) (cl p3))).toInt64)) S (zM_perm lw_perm lw_perm.symm (c_X6_thrown (q := q) (mr := (upd mr 2 0)))) ⟨Nat.le_of_ble_eq_true rfl, Nat.le_of_ble_eq_true rfl⟩ hN hK hP hD hS hA rfl rfl hcs hl hKt hKv dL_law_1293 dL_law_1295 dL_law_1296 dL_law_1299 dL_law_1301 dL_law_1306 dL_law_1308 dL_law_1311 dL_law_1312 dL_law_1313 dL_law_1314 dL_law_1316 dL_law_1317 dL_law_1318 dL_law_1323 (by decide) (fun Hp locs ls hP hD hS hl => ?_)
    exact kk n z zh nx kp hi H T nb r pa ke (upd mr 2 0) hs (vp_updL fo 0 ((lngP z (cl p1) (cl p2) (cl p3))).toInt64) (lwI_up hI (by omega) (upd_ne (by decide)) (upd_ne (by decide))) Hp locs ls hP hD hS hl
  · rw [if_neg hk] at hP hD
    have M := c_X6_longest (l := l) (D := D) (cI := cI) (cC := cC) (cM := cM) (cB := cB) (cJ := cJ) (q := q) (hi := hi) (tx := T) (pa := pa) (ke := ke) (mr := mr) (hs := hs) (wr := xw0 cI cC cM cB ad z t T (nI nb) r x h ah (nI nx) (nI kp) zh [outC cJ o fo]) hn hz hB p1 p2 p3
    simp only [xwf, xv, if_neg hk] at M
    refine lv_aload_n hx hb dL_law_1271 rfl (lv_at hl 3 rfl) ?_
    refine lv_aload_n hx hb dL_law_1272 rfl (lv_at hl 1 rfl) ?_
    refine lv_iload hx hb dL_law_1273 (lv_at hl 5 rfl) ?_
    refine lv_iconst (v := 1) hx hb dL_law_1275 (by decide) ?_
    refine lv_iadd hx hb dL_law_1276 ?_
    refine z_sld hx hb hX hbl hbA hS s1 dL_law_1277 ?_
    refine lv_aload_n hx hb dL_law_1278 rfl (lv_at hl 1 rfl) ?_
    refine lv_iload hx hb dL_law_1279 (lv_at hl 5 rfl) ?_
    refine lv_iconst (v := 2) hx hb dL_law_1281 (by decide) ?_
    refine lv_iadd hx hb dL_law_1282 ?_
    refine z_sld hx hb hX hbl hbA hS s2 dL_law_1283 ?_
    refine lv_aload_n hx hb dL_law_1284 rfl (lv_at hl 1 rfl) ?_
    refine lv_iload hx hb dL_law_1285 (lv_at hl 5 rfl) ?_
    refine lv_iconst (v := 3) hx hb dL_law_1287 (by decide) ?_
    refine lv_iadd hx hb dL_law_1288 ?_
    refine z_sld hx hb hX hbl hbA hS s3 dL_law_1289 ?_
    refine z_callV1 (n := 3) (As := [.int p1, .int p2, .int p3]) (rest := []) S (zM_perm lw_perm lw_perm.symm M) qm_L_160 ⟨⟨qi_X6_longest, qs_X6_longest, qn_X6, qc_X6_longest⟩, rfl, by decide, by decide, by decide +kernel⟩ ⟨Nat.le_of_ble_eq_true rfl, Nat.le_of_ble_eq_true rfl⟩ rfl rfl hN hK hP hD hS hA 140 rfl rfl rfl hl.1 rfl (Nat.le_of_ble_eq_true rfl) dL_law_1290 hcs (fun Hp locs hP hD hS => ?_)
    have hKt : (upd mr 2 (kLongest n p1 p2 p3)) 2 = (kLongest n p1 p2 p3) := upd_eq rfl
    have hKv : (kLongest n p1 p2 p3) = 0 → fo 0 = (0 : Int32).toInt64 := fun h9 => absurd h9 hk
    refine lw_tail (o := o) (q := q) (fo := fo) S (zM_perm lw_perm lw_perm.symm (c_X6_thrown (q := q) (mr := (upd mr 2 (kLongest n p1 p2 p3))))) ⟨Nat.le_of_ble_eq_true rfl, Nat.le_of_ble_eq_true rfl⟩ hN hK hP hD hS hA rfl rfl hcs hl hKt hKv dL_law_1293 dL_law_1295 dL_law_1296 dL_law_1299 dL_law_1301 dL_law_1306 dL_law_1308 dL_law_1311 dL_law_1312 dL_law_1313 dL_law_1314 dL_law_1316 dL_law_1317 dL_law_1318 dL_law_1323 (by decide) (fun Hp locs ls hP hD hS hl => ?_)
    exact kk n z zh nx kp hi H T nb r pa ke (upd mr 2 (kLongest n p1 p2 p3)) hs fo (lwI_up hI (by omega) (upd_ne (by decide)) (upd_ne (by decide))) Hp locs ls hP hD hS hl
set_option maxHeartbeats 4000000 in
set_option maxRecDepth 100000 in
theorem k_cheapest {p : Program} {l : Launch} {e : Env} {s : State} {m : MethodId} {below : List Frame} {meth : Method} {c : Code} {b L : Nat} {xs : Nat → Int32} {D : va_G} {cI cC cM cB cJ : ClassId} {ad t : Nat → Nat} {x : Nat} {h : Nat → Nat} {ah : Nat → Nat → Nat} {q : Nat → Nat} {o : Nat} {x4 : Int32} {C cells slots : Nat} {n : Nat} {z : Nat → Int32} {zh : Nat → Nat → Int32} {nx kp : Nat} {hi : Nat → Int32} {H : Nat → Nat → Int32} {T : Nat → Int32} {nb : Nat} {r pa ke mr : Nat → Int32} {hs : Int64} {fo : Nat → Int64} {Hp : Heap} {locs : List Loc} {ls : Array Slot} {p1 p2 p3 p4 : Int32}  (E : lwEnv p s m meth c b L xs D cI cC cM cB cJ) (hfl : l.stackTraces = false) (hC : C + 10 ≤ 6000) (hC1 : 1 ≤ C) (hI : lwI C n z zh nx kp hi H T nb mr) (hcs : cells + 1 ≤ 601024 ∧ slots + 6 ≤ 7293034) (hP : va_P D vwCl (xw0 cI cC cM cB ad z t T (nI nb) r x h ah (nI nx) (nI kp) zh (outC cJ o fo :: moW cI q z hi T pa ke mr hs [])) Hp) (hD : va_D (fun q : Nat => s.heap.size ≤ q) (xw0 cI cC cM cB ad z t T (nI nb) r x h ah (nI nx) (nI kp) zh (outC cJ o fo :: moW cI q z hi T pa ke mr hs []))) (hS : va_S (fun q : Nat => s.heap.size ≤ q) s.heap Hp locs) (hl : lv_has ls 9 (lwL b x o q x4)) (sc : lwScr xs L x4 p1 p2 p3 p4) (kk : lwK p l e s m below meth c b D cI cC cM cB cJ ad t x h ah q o x4 (C + 10) (cells + 1) (slots + 6)) : W p l e room_1 s m #[Value.ref b] below meth c Hp locs cells slots (lw_Z below #[Value.ref b] s) (F0 m 1326 ls []) := by
  obtain ⟨⟨hx, hb, hr, hml, hown, hts, hX, hbl, hlocks, hgv⟩, hCn, hJ, hN, hK⟩ := id E
  have S : CallFix p m c code 9 s #[Value.ref b] TT RL := ⟨hx, hb, hml, hown, fun w hw => hts w (List.mem_filter.mp hw).1⟩
  have hA : ∀ q : Nat, s.heap.size ≤ q → (fun q : Nat => s.heap.size ≤ q) q := fun _ h => h
  have hbA : ¬ (fun q : Nat => s.heap.size ≤ q) b := Nat.not_le.mpr hbl
  obtain ⟨hR, hH, hnb, hT, hm0, hm1⟩ := id hI
  obtain ⟨hn, hz, hB, -⟩ := id hR
  obtain ⟨hnx, hkp, hBh, -⟩ := id hH
  obtain ⟨s1, s2, s3, s4⟩ := sc
  refine lv_aload_n hx hb dL_law_1326 rfl (lv_at hl 1 rfl) ?_
  refine lv_aload_n hx hb dL_law_1327 rfl (lv_at hl 0 rfl) ?_
  refine lv_iload hx hb dL_law_1328 (lv_at hl 4 rfl) ?_
  refine lv_iconst (v := 1) hx hb dL_law_1330 (by decide) ?_
  refine lv_iadd hx hb dL_law_1331 ?_
  refine z_sld hx hb hX hbl hbA hS s1 dL_law_1332 ?_
  refine lv_aload_n hx hb dL_law_1333 rfl (lv_at hl 0 rfl) ?_
  refine lv_iload hx hb dL_law_1334 (lv_at hl 4 rfl) ?_
  refine lv_iconst (v := 2) hx hb dL_law_1336 (by decide) ?_
  refine lv_iadd hx hb dL_law_1337 ?_
  refine z_sld hx hb hX hbl hbA hS s2 dL_law_1338 ?_
  refine lv_aload_n hx hb dL_law_1339 rfl (lv_at hl 0 rfl) ?_
  refine lv_iload hx hb dL_law_1340 (lv_at hl 4 rfl) ?_
  refine lv_iconst (v := 3) hx hb dL_law_1342 (by decide) ?_
  refine lv_iadd hx hb dL_law_1343 ?_
  refine z_sld hx hb hX hbl hbA hS s3 dL_law_1344 ?_
  refine lv_aload_n hx hb dL_law_1345 rfl (lv_at hl 3 rfl) ?_
  refine z_callH (n := 5) (As := [.ref x, .int p1, .int p2, .int p3, .ref o]) (rest := []) S (c_L_cheapest (fo := fo) (wr := moW cI q z hi T pa ke mr hs []) hfl hn hz p1 p2 p3) qm_L_161 ⟨qt_L_cheapest, qn_L, qw_L_cheapest⟩ ⟨by decide, by decide, by decide +kernel⟩ ⟨Nat.le_of_ble_eq_true rfl, Nat.le_of_ble_eq_true rfl⟩ rfl rfl hCn hJ hN hK hP hD hS hA rfl hl.1 rfl (Nat.le_of_ble_eq_true rfl) dL_law_1346 hcs (fun Hp locs hP hD hS => ?_)
  refine lv_istore (lv' := (5, .int (kWorth n p1 p2 p3)) :: lwL b x o q x4) hx hb dL_law_1349 hl (by decide) rfl (fun ls hl => ?_)
  by_cases hk : (kWorth n p1 p2 p3) = 0
  · rw [if_pos hk] at hP hD
    obtain ⟨a1, a3, a5⟩ := k0_msk hk
    obtain ⟨t1, t2⟩ := mP_j hn a1
    obtain ⟨k1, k2⟩ := sP_j a3
    have M := c_X6_cheapest (l := l) (D := D) (cI := cI) (cC := cC) (cM := cM) (cB := cB) (cJ := cJ) (q := q) (hi := hi) (tx := T) (pa := pa) (ke := ke) (mr := mr) (hs := hs) (wr := xw0 cI cC cM cB ad z t T (nI nb) r x h ah (nI nx) (nI kp) zh [outC cJ o (vp_updL fo 0 ((chG z n (cl p1) (cl p2) p3 n)).toInt64)]) hn hz hB p1 p2 p3
    simp only [xwf, xv, if_pos hk] at M
    refine lv_aload_n hx hb dL_law_1351 rfl (lv_at hl 3 rfl) ?_
    refine lv_aload_n hx hb dL_law_1352 rfl (lv_at hl 1 rfl) ?_
    refine lv_iload hx hb dL_law_1353 (lv_at hl 5 rfl) ?_
    refine lv_iconst (v := 1) hx hb dL_law_1355 (by decide) ?_
    refine lv_iadd hx hb dL_law_1356 ?_
    refine z_sld hx hb hX hbl hbA hS s1 dL_law_1357 ?_
    refine lv_aload_n hx hb dL_law_1358 rfl (lv_at hl 1 rfl) ?_
    refine lv_iload hx hb dL_law_1359 (lv_at hl 5 rfl) ?_
    refine lv_iconst (v := 2) hx hb dL_law_1361 (by decide) ?_
    refine lv_iadd hx hb dL_law_1362 ?_
    refine z_sld hx hb hX hbl hbA hS s2 dL_law_1363 ?_
    refine lv_aload_n hx hb dL_law_1364 rfl (lv_at hl 1 rfl) ?_
    refine lv_iload hx hb dL_law_1365 (lv_at hl 5 rfl) ?_
    refine lv_iconst (v := 3) hx hb dL_law_1367 (by decide) ?_
    refine lv_iadd hx hb dL_law_1368 ?_
    refine z_sld hx hb hX hbl hbA hS s3 dL_law_1369 ?_
    refine z_callV1 (n := 3) (As := [.int p1, .int p2, .int p3]) (rest := []) S (zM_perm lw_perm lw_perm.symm M) qm_L_163 ⟨⟨qi_X6_cheapest, qs_X6_cheapest, qn_X6, qc_X6_cheapest⟩, rfl, by decide, by decide, by decide +kernel⟩ ⟨Nat.le_of_ble_eq_true rfl, Nat.le_of_ble_eq_true rfl⟩ rfl rfl hN hK hP hD hS hA 140 rfl rfl rfl hl.1 rfl (Nat.le_of_ble_eq_true rfl) dL_law_1370 hcs (fun Hp locs hP hD hS => ?_)
    have hKt : (upd mr 2 0) 2 = (kWorth n p1 p2 p3) := by rw [hk]; exact upd_eq rfl
    have hKv : (kWorth n p1 p2 p3) = 0 → (vp_updL fo 0 ((chG z n (cl p1) (cl p2) p3 n)).toInt64) 0 = ((chM z (cl p1) (cl p2) p3 n)).toInt64 := fun _ => pk_uLs.trans (congrArg Int32.toInt64 (show (chG z n (cl p1) (cl p2) p3 n) = (chM z (cl p1) (cl p2) p3 n) from ch_ok hR t1 k1 ⟨by have := (inP_600 a5).1; omega, (inP_600 a5).2⟩))
    refine lw_tail (o := o) (q := q) (fo := (vp_updL fo 0 ((chG z n (cl p1) (cl p2) p3 n)).toInt64)) S (zM_perm lw_perm lw_perm.symm (c_X6_thrown (q := q) (mr := (upd mr 2 0)))) ⟨Nat.le_of_ble_eq_true rfl, Nat.le_of_ble_eq_true rfl⟩ hN hK hP hD hS hA rfl rfl hcs hl hKt hKv dL_law_1373 dL_law_1375 dL_law_1376 dL_law_1379 dL_law_1381 dL_law_1386 dL_law_1388 dL_law_1391 dL_law_1392 dL_law_1393 dL_law_1394 dL_law_1396 dL_law_1397 dL_law_1398 dL_law_1403 (by decide) (fun Hp locs ls hP hD hS hl => ?_)
    exact kk n z zh nx kp hi H T nb r pa ke (upd mr 2 0) hs (vp_updL fo 0 ((chG z n (cl p1) (cl p2) p3 n)).toInt64) (lwI_up hI (by omega) (upd_ne (by decide)) (upd_ne (by decide))) Hp locs ls hP hD hS hl
  · rw [if_neg hk] at hP hD
    have M := c_X6_cheapest (l := l) (D := D) (cI := cI) (cC := cC) (cM := cM) (cB := cB) (cJ := cJ) (q := q) (hi := hi) (tx := T) (pa := pa) (ke := ke) (mr := mr) (hs := hs) (wr := xw0 cI cC cM cB ad z t T (nI nb) r x h ah (nI nx) (nI kp) zh [outC cJ o fo]) hn hz hB p1 p2 p3
    simp only [xwf, xv, if_neg hk] at M
    refine lv_aload_n hx hb dL_law_1351 rfl (lv_at hl 3 rfl) ?_
    refine lv_aload_n hx hb dL_law_1352 rfl (lv_at hl 1 rfl) ?_
    refine lv_iload hx hb dL_law_1353 (lv_at hl 5 rfl) ?_
    refine lv_iconst (v := 1) hx hb dL_law_1355 (by decide) ?_
    refine lv_iadd hx hb dL_law_1356 ?_
    refine z_sld hx hb hX hbl hbA hS s1 dL_law_1357 ?_
    refine lv_aload_n hx hb dL_law_1358 rfl (lv_at hl 1 rfl) ?_
    refine lv_iload hx hb dL_law_1359 (lv_at hl 5 rfl) ?_
    refine lv_iconst (v := 2) hx hb dL_law_1361 (by decide) ?_
    refine lv_iadd hx hb dL_law_1362 ?_
    refine z_sld hx hb hX hbl hbA hS s2 dL_law_1363 ?_
    refine lv_aload_n hx hb dL_law_1364 rfl (lv_at hl 1 rfl) ?_
    refine lv_iload hx hb dL_law_1365 (lv_at hl 5 rfl) ?_
    refine lv_iconst (v := 3) hx hb dL_law_1367 (by decide) ?_
    refine lv_iadd hx hb dL_law_1368 ?_
    refine z_sld hx hb hX hbl hbA hS s3 dL_law_1369 ?_
    refine z_callV1 (n := 3) (As := [.int p1, .int p2, .int p3]) (rest := []) S (zM_perm lw_perm lw_perm.symm M) qm_L_163 ⟨⟨qi_X6_cheapest, qs_X6_cheapest, qn_X6, qc_X6_cheapest⟩, rfl, by decide, by decide, by decide +kernel⟩ ⟨Nat.le_of_ble_eq_true rfl, Nat.le_of_ble_eq_true rfl⟩ rfl rfl hN hK hP hD hS hA 140 rfl rfl rfl hl.1 rfl (Nat.le_of_ble_eq_true rfl) dL_law_1370 hcs (fun Hp locs hP hD hS => ?_)
    have hKt : (upd mr 2 (kWorth n p1 p2 p3)) 2 = (kWorth n p1 p2 p3) := upd_eq rfl
    have hKv : (kWorth n p1 p2 p3) = 0 → fo 0 = (0 : Int32).toInt64 := fun h9 => absurd h9 hk
    refine lw_tail (o := o) (q := q) (fo := fo) S (zM_perm lw_perm lw_perm.symm (c_X6_thrown (q := q) (mr := (upd mr 2 (kWorth n p1 p2 p3))))) ⟨Nat.le_of_ble_eq_true rfl, Nat.le_of_ble_eq_true rfl⟩ hN hK hP hD hS hA rfl rfl hcs hl hKt hKv dL_law_1373 dL_law_1375 dL_law_1376 dL_law_1379 dL_law_1381 dL_law_1386 dL_law_1388 dL_law_1391 dL_law_1392 dL_law_1393 dL_law_1394 dL_law_1396 dL_law_1397 dL_law_1398 dL_law_1403 (by decide) (fun Hp locs ls hP hD hS hl => ?_)
    exact kk n z zh nx kp hi H T nb r pa ke (upd mr 2 (kWorth n p1 p2 p3)) hs fo (lwI_up hI (by omega) (upd_ne (by decide)) (upd_ne (by decide))) Hp locs ls hP hD hS hl
set_option maxHeartbeats 4000000 in
set_option maxRecDepth 100000 in
theorem k_decayIn {p : Program} {l : Launch} {e : Env} {s : State} {m : MethodId} {below : List Frame} {meth : Method} {c : Code} {b L : Nat} {xs : Nat → Int32} {D : va_G} {cI cC cM cB cJ : ClassId} {ad t : Nat → Nat} {x : Nat} {h : Nat → Nat} {ah : Nat → Nat → Nat} {q : Nat → Nat} {o : Nat} {x4 : Int32} {C cells slots : Nat} {n : Nat} {z : Nat → Int32} {zh : Nat → Nat → Int32} {nx kp : Nat} {hi : Nat → Int32} {H : Nat → Nat → Int32} {T : Nat → Int32} {nb : Nat} {r pa ke mr : Nat → Int32} {hs : Int64} {fo : Nat → Int64} {Hp : Heap} {locs : List Loc} {ls : Array Slot} {p1 p2 p3 p4 : Int32}  (E : lwEnv p s m meth c b L xs D cI cC cM cB cJ) (hfl : l.stackTraces = false) (hC : C + 10 ≤ 6000) (hC1 : 1 ≤ C) (hI : lwI C n z zh nx kp hi H T nb mr) (hcs : cells + 1 ≤ 601024 ∧ slots + 6 ≤ 7293034) (hP : va_P D vwCl (xw0 cI cC cM cB ad z t T (nI nb) r x h ah (nI nx) (nI kp) zh (outC cJ o fo :: moW cI q z hi T pa ke mr hs [])) Hp) (hD : va_D (fun q : Nat => s.heap.size ≤ q) (xw0 cI cC cM cB ad z t T (nI nb) r x h ah (nI nx) (nI kp) zh (outC cJ o fo :: moW cI q z hi T pa ke mr hs []))) (hS : va_S (fun q : Nat => s.heap.size ≤ q) s.heap Hp locs) (hl : lv_has ls 9 (lwL b x o q x4)) (sc : lwScr xs L x4 p1 p2 p3 p4) (kk : lwK p l e s m below meth c b D cI cC cM cB cJ ad t x h ah q o x4 (C + 10) (cells + 1) (slots + 6)) : W p l e room_1 s m #[Value.ref b] below meth c Hp locs cells slots (lw_Z below #[Value.ref b] s) (F0 m 1406 ls []) := by
  obtain ⟨⟨hx, hb, hr, hml, hown, hts, hX, hbl, hlocks, hgv⟩, hCn, hJ, hN, hK⟩ := id E
  have S : CallFix p m c code 9 s #[Value.ref b] TT RL := ⟨hx, hb, hml, hown, fun w hw => hts w (List.mem_filter.mp hw).1⟩
  have hA : ∀ q : Nat, s.heap.size ≤ q → (fun q : Nat => s.heap.size ≤ q) q := fun _ h => h
  have hbA : ¬ (fun q : Nat => s.heap.size ≤ q) b := Nat.not_le.mpr hbl
  obtain ⟨hR, hH, hnb, hT, hm0, hm1⟩ := id hI
  obtain ⟨hn, hz, hB, -⟩ := id hR
  obtain ⟨hnx, hkp, hBh, -⟩ := id hH
  obtain ⟨s1, s2, s3, s4⟩ := sc
  refine lv_aload_n hx hb dL_law_1406 rfl (lv_at hl 1 rfl) ?_
  refine lv_aload_n hx hb dL_law_1407 rfl (lv_at hl 0 rfl) ?_
  refine lv_iload hx hb dL_law_1408 (lv_at hl 4 rfl) ?_
  refine lv_iconst (v := 1) hx hb dL_law_1410 (by decide) ?_
  refine lv_iadd hx hb dL_law_1411 ?_
  refine z_sld hx hb hX hbl hbA hS s1 dL_law_1412 ?_
  refine lv_aload_n hx hb dL_law_1413 rfl (lv_at hl 0 rfl) ?_
  refine lv_iload hx hb dL_law_1414 (lv_at hl 4 rfl) ?_
  refine lv_iconst (v := 2) hx hb dL_law_1416 (by decide) ?_
  refine lv_iadd hx hb dL_law_1417 ?_
  refine z_sld hx hb hX hbl hbA hS s2 dL_law_1418 ?_
  refine lv_aload_n hx hb dL_law_1419 rfl (lv_at hl 3 rfl) ?_
  refine z_callH (n := 4) (As := [.ref x, .int p1, .int p2, .ref o]) (rest := []) S (c_L_decayIn (fo := fo) (wr := moW cI q z hi T pa ke mr hs []) hfl hn hz p1 p2) qm_L_164 ⟨qt_L_decayIn, qn_L, qw_L_decayIn⟩ ⟨by decide, by decide, by decide +kernel⟩ ⟨Nat.le_of_ble_eq_true rfl, Nat.le_of_ble_eq_true rfl⟩ rfl rfl hCn hJ hN hK hP hD hS hA rfl hl.1 rfl (Nat.le_of_ble_eq_true rfl) dL_law_1420 hcs (fun Hp locs hP hD hS => ?_)
  refine lv_istore (lv' := (5, .int (kDecay n p1 p2)) :: lwL b x o q x4) hx hb dL_law_1423 hl (by decide) rfl (fun ls hl => ?_)
  by_cases hk : (kDecay n p1 p2) = 0
  · rw [if_pos hk] at hP hD
    obtain ⟨a1, a2⟩ := k0_mb hk
    obtain ⟨t1, t2⟩ := mP_j hn a1
    have M := c_X6_decayIn (l := l) (D := D) (cI := cI) (cC := cC) (cM := cM) (cB := cB) (cJ := cJ) (q := q) (hi := hi) (tx := T) (pa := pa) (ke := ke) (mr := mr) (hs := hs) (wr := xw0 cI cC cM cB ad z t T (nI nb) r x h ah (nI nx) (nI kp) zh [outC cJ o (vp_updL fo 0 ((fdP z (cl p1) (cl p2))).toInt64)]) hn hz hB p1 p2
    simp only [xwf, xv, if_pos hk] at M
    refine lv_aload_n hx hb dL_law_1425 rfl (lv_at hl 3 rfl) ?_
    refine lv_aload_n hx hb dL_law_1426 rfl (lv_at hl 1 rfl) ?_
    refine lv_iload hx hb dL_law_1427 (lv_at hl 5 rfl) ?_
    refine lv_iconst (v := 1) hx hb dL_law_1429 (by decide) ?_
    refine lv_iadd hx hb dL_law_1430 ?_
    refine z_sld hx hb hX hbl hbA hS s1 dL_law_1431 ?_
    refine lv_aload_n hx hb dL_law_1432 rfl (lv_at hl 1 rfl) ?_
    refine lv_iload hx hb dL_law_1433 (lv_at hl 5 rfl) ?_
    refine lv_iconst (v := 2) hx hb dL_law_1435 (by decide) ?_
    refine lv_iadd hx hb dL_law_1436 ?_
    refine z_sld hx hb hX hbl hbA hS s2 dL_law_1437 ?_
    refine z_callV1 (n := 2) (As := [.int p1, .int p2]) (rest := []) S (zM_perm lw_perm lw_perm.symm M) qm_L_166 ⟨⟨qi_X6_decayIn, qs_X6_decayIn, qn_X6, qc_X6_decayIn⟩, rfl, by decide, by decide, by decide +kernel⟩ ⟨Nat.le_of_ble_eq_true rfl, Nat.le_of_ble_eq_true rfl⟩ rfl rfl hN hK hP hD hS hA 140 rfl rfl rfl hl.1 rfl (Nat.le_of_ble_eq_true rfl) dL_law_1438 hcs (fun Hp locs hP hD hS => ?_)
    have hKt : (upd mr 2 0) 2 = (kDecay n p1 p2) := by rw [hk]; exact upd_eq rfl
    have hKv : (kDecay n p1 p2) = 0 → (vp_updL fo 0 ((fdP z (cl p1) (cl p2))).toInt64) 0 = ((dcM z n (cl p1) (cl p2))).toInt64 := fun _ => pk_uLs.trans (congrArg Int32.toInt64 (show (fdP z (cl p1) (cl p2)) = (dcM z n (cl p1) (cl p2)) from (fd_eq (by omega) hR t1 _).symm))
    refine lw_tail (o := o) (q := q) (fo := (vp_updL fo 0 ((fdP z (cl p1) (cl p2))).toInt64)) S (zM_perm lw_perm lw_perm.symm (c_X6_thrown (q := q) (mr := (upd mr 2 0)))) ⟨Nat.le_of_ble_eq_true rfl, Nat.le_of_ble_eq_true rfl⟩ hN hK hP hD hS hA rfl rfl hcs hl hKt hKv dL_law_1441 dL_law_1443 dL_law_1444 dL_law_1447 dL_law_1449 dL_law_1454 dL_law_1456 dL_law_1459 dL_law_1460 dL_law_1461 dL_law_1462 dL_law_1464 dL_law_1465 dL_law_1466 dL_law_1471 (by decide) (fun Hp locs ls hP hD hS hl => ?_)
    exact kk n z zh nx kp hi H T nb r pa (kpF ke z 142) (upd mr 2 0) hs (vp_updL fo 0 ((fdP z (cl p1) (cl p2))).toInt64) (lwI_up hI (by omega) (upd_ne (by decide)) (upd_ne (by decide))) Hp locs ls hP hD hS hl
  · rw [if_neg hk] at hP hD
    have M := c_X6_decayIn (l := l) (D := D) (cI := cI) (cC := cC) (cM := cM) (cB := cB) (cJ := cJ) (q := q) (hi := hi) (tx := T) (pa := pa) (ke := ke) (mr := mr) (hs := hs) (wr := xw0 cI cC cM cB ad z t T (nI nb) r x h ah (nI nx) (nI kp) zh [outC cJ o fo]) hn hz hB p1 p2
    simp only [xwf, xv, if_neg hk] at M
    refine lv_aload_n hx hb dL_law_1425 rfl (lv_at hl 3 rfl) ?_
    refine lv_aload_n hx hb dL_law_1426 rfl (lv_at hl 1 rfl) ?_
    refine lv_iload hx hb dL_law_1427 (lv_at hl 5 rfl) ?_
    refine lv_iconst (v := 1) hx hb dL_law_1429 (by decide) ?_
    refine lv_iadd hx hb dL_law_1430 ?_
    refine z_sld hx hb hX hbl hbA hS s1 dL_law_1431 ?_
    refine lv_aload_n hx hb dL_law_1432 rfl (lv_at hl 1 rfl) ?_
    refine lv_iload hx hb dL_law_1433 (lv_at hl 5 rfl) ?_
    refine lv_iconst (v := 2) hx hb dL_law_1435 (by decide) ?_
    refine lv_iadd hx hb dL_law_1436 ?_
    refine z_sld hx hb hX hbl hbA hS s2 dL_law_1437 ?_
    refine z_callV1 (n := 2) (As := [.int p1, .int p2]) (rest := []) S (zM_perm lw_perm lw_perm.symm M) qm_L_166 ⟨⟨qi_X6_decayIn, qs_X6_decayIn, qn_X6, qc_X6_decayIn⟩, rfl, by decide, by decide, by decide +kernel⟩ ⟨Nat.le_of_ble_eq_true rfl, Nat.le_of_ble_eq_true rfl⟩ rfl rfl hN hK hP hD hS hA 140 rfl rfl rfl hl.1 rfl (Nat.le_of_ble_eq_true rfl) dL_law_1438 hcs (fun Hp locs hP hD hS => ?_)
    have hKt : (upd mr 2 (kDecay n p1 p2)) 2 = (kDecay n p1 p2) := upd_eq rfl
    have hKv : (kDecay n p1 p2) = 0 → fo 0 = (0 : Int32).toInt64 := fun h9 => absurd h9 hk
    refine lw_tail (o := o) (q := q) (fo := fo) S (zM_perm lw_perm lw_perm.symm (c_X6_thrown (q := q) (mr := (upd mr 2 (kDecay n p1 p2))))) ⟨Nat.le_of_ble_eq_true rfl, Nat.le_of_ble_eq_true rfl⟩ hN hK hP hD hS hA rfl rfl hcs hl hKt hKv dL_law_1441 dL_law_1443 dL_law_1444 dL_law_1447 dL_law_1449 dL_law_1454 dL_law_1456 dL_law_1459 dL_law_1460 dL_law_1461 dL_law_1462 dL_law_1464 dL_law_1465 dL_law_1466 dL_law_1471 (by decide) (fun Hp locs ls hP hD hS hl => ?_)
    exact kk n z zh nx kp hi H T nb r pa ke (upd mr 2 (kDecay n p1 p2)) hs fo (lwI_up hI (by omega) (upd_ne (by decide)) (upd_ne (by decide))) Hp locs ls hP hD hS hl
set_option maxHeartbeats 4000000 in
set_option maxRecDepth 100000 in
theorem k_ripest {p : Program} {l : Launch} {e : Env} {s : State} {m : MethodId} {below : List Frame} {meth : Method} {c : Code} {b L : Nat} {xs : Nat → Int32} {D : va_G} {cI cC cM cB cJ : ClassId} {ad t : Nat → Nat} {x : Nat} {h : Nat → Nat} {ah : Nat → Nat → Nat} {q : Nat → Nat} {o : Nat} {x4 : Int32} {C cells slots : Nat} {n : Nat} {z : Nat → Int32} {zh : Nat → Nat → Int32} {nx kp : Nat} {hi : Nat → Int32} {H : Nat → Nat → Int32} {T : Nat → Int32} {nb : Nat} {r pa ke mr : Nat → Int32} {hs : Int64} {fo : Nat → Int64} {Hp : Heap} {locs : List Loc} {ls : Array Slot} {p1 p2 p3 p4 : Int32}  (E : lwEnv p s m meth c b L xs D cI cC cM cB cJ) (hfl : l.stackTraces = false) (hC : C + 10 ≤ 6000) (hC1 : 1 ≤ C) (hI : lwI C n z zh nx kp hi H T nb mr) (hcs : cells + 1 ≤ 601024 ∧ slots + 6 ≤ 7293034) (hP : va_P D vwCl (xw0 cI cC cM cB ad z t T (nI nb) r x h ah (nI nx) (nI kp) zh (outC cJ o fo :: moW cI q z hi T pa ke mr hs [])) Hp) (hD : va_D (fun q : Nat => s.heap.size ≤ q) (xw0 cI cC cM cB ad z t T (nI nb) r x h ah (nI nx) (nI kp) zh (outC cJ o fo :: moW cI q z hi T pa ke mr hs []))) (hS : va_S (fun q : Nat => s.heap.size ≤ q) s.heap Hp locs) (hl : lv_has ls 9 (lwL b x o q x4)) (sc : lwScr xs L x4 p1 p2 p3 p4) (kk : lwK p l e s m below meth c b D cI cC cM cB cJ ad t x h ah q o x4 (C + 10) (cells + 1) (slots + 6)) : W p l e room_1 s m #[Value.ref b] below meth c Hp locs cells slots (lw_Z below #[Value.ref b] s) (F0 m 1487 ls []) := by
  obtain ⟨⟨hx, hb, hr, hml, hown, hts, hX, hbl, hlocks, hgv⟩, hCn, hJ, hN, hK⟩ := id E
  have S : CallFix p m c code 9 s #[Value.ref b] TT RL := ⟨hx, hb, hml, hown, fun w hw => hts w (List.mem_filter.mp hw).1⟩
  have hA : ∀ q : Nat, s.heap.size ≤ q → (fun q : Nat => s.heap.size ≤ q) q := fun _ h => h
  have hbA : ¬ (fun q : Nat => s.heap.size ≤ q) b := Nat.not_le.mpr hbl
  obtain ⟨hR, hH, hnb, hT, hm0, hm1⟩ := id hI
  obtain ⟨hn, hz, hB, -⟩ := id hR
  obtain ⟨hnx, hkp, hBh, -⟩ := id hH
  obtain ⟨s1, s2, s3, s4⟩ := sc
  refine lv_aload_n hx hb dL_law_1487 rfl (lv_at hl 1 rfl) ?_
  refine lv_aload_n hx hb dL_law_1488 rfl (lv_at hl 0 rfl) ?_
  refine lv_iload hx hb dL_law_1489 (lv_at hl 4 rfl) ?_
  refine lv_iconst (v := 1) hx hb dL_law_1491 (by decide) ?_
  refine lv_iadd hx hb dL_law_1492 ?_
  refine z_sld hx hb hX hbl hbA hS s1 dL_law_1493 ?_
  refine lv_aload_n hx hb dL_law_1494 rfl (lv_at hl 3 rfl) ?_
  refine z_callH (n := 3) (As := [.ref x, .int p1, .ref o]) (rest := []) S (c_L_ripest (fo := fo) (wr := moW cI q z hi T pa ke mr hs []) hfl hn hz p1) qm_L_171 ⟨qt_L_ripest, qn_L, qw_L_ripest⟩ ⟨by decide, by decide, by decide +kernel⟩ ⟨Nat.le_of_ble_eq_true rfl, Nat.le_of_ble_eq_true rfl⟩ rfl rfl hCn hJ hN hK hP hD hS hA rfl hl.1 rfl (Nat.le_of_ble_eq_true rfl) dL_law_1495 hcs (fun Hp locs hP hD hS => ?_)
  refine lv_istore (lv' := (5, .int (kRipest p1)) :: lwL b x o q x4) hx hb dL_law_1498 hl (by decide) rfl (fun ls hl => ?_)
  by_cases hk : (kRipest p1) = 0
  · rw [if_pos hk] at hP hD
    have M := c_X6_ripest (l := l) (D := D) (cI := cI) (cC := cC) (cM := cM) (cB := cB) (cJ := cJ) (q := q) (hi := hi) (tx := T) (pa := pa) (ke := ke) (mr := mr) (hs := hs) (wr := xw0 cI cC cM cB ad z t T (nI nb) r x h ah (nI nx) (nI kp) zh [outC cJ o (vp_updL fo 0 ((mpP z (cl p1) n)).toInt64)]) hn hz hB p1
    simp only [xwf, xv, if_pos hk] at M
    refine lv_aload_n hx hb dL_law_1500 rfl (lv_at hl 3 rfl) ?_
    refine lv_aload_n hx hb dL_law_1501 rfl (lv_at hl 1 rfl) ?_
    refine lv_iload hx hb dL_law_1502 (lv_at hl 5 rfl) ?_
    refine lv_iconst (v := 1) hx hb dL_law_1504 (by decide) ?_
    refine lv_iadd hx hb dL_law_1505 ?_
    refine z_sld hx hb hX hbl hbA hS s1 dL_law_1506 ?_
    refine z_callV1 (n := 1) (As := [.int p1]) (rest := []) S (zM_perm lw_perm lw_perm.symm M) qm_L_173 ⟨⟨qi_X6_ripest, qs_X6_ripest, qn_X6, qc_X6_ripest⟩, rfl, by decide, by decide, by decide +kernel⟩ ⟨Nat.le_of_ble_eq_true rfl, Nat.le_of_ble_eq_true rfl⟩ rfl rfl hN hK hP hD hS hA 140 rfl rfl rfl hl.1 rfl (Nat.le_of_ble_eq_true rfl) dL_law_1507 hcs (fun Hp locs hP hD hS => ?_)
    have hKt : (upd mr 2 0) 2 = (kRipest p1) := by rw [hk]; exact upd_eq rfl
    have hKv : (kRipest p1) = 0 → (vp_updL fo 0 ((mpP z (cl p1) n)).toInt64) 0 = ((mpP z (cl p1) n)).toInt64 := fun _ => pk_uLs.trans (congrArg Int32.toInt64 (show (mpP z (cl p1) n) = (mpP z (cl p1) n) from rfl))
    refine lw_tail (o := o) (q := q) (fo := (vp_updL fo 0 ((mpP z (cl p1) n)).toInt64)) S (zM_perm lw_perm lw_perm.symm (c_X6_thrown (q := q) (mr := (upd mr 2 0)))) ⟨Nat.le_of_ble_eq_true rfl, Nat.le_of_ble_eq_true rfl⟩ hN hK hP hD hS hA rfl rfl hcs hl hKt hKv dL_law_1510 dL_law_1512 dL_law_1513 dL_law_1516 dL_law_1518 dL_law_1523 dL_law_1525 dL_law_1528 dL_law_1529 dL_law_1530 dL_law_1531 dL_law_1533 dL_law_1534 dL_law_1535 dL_law_1540 (by decide) (fun Hp locs ls hP hD hS hl => ?_)
    exact kk n z zh nx kp hi H T nb r pa ke (upd mr 2 0) hs (vp_updL fo 0 ((mpP z (cl p1) n)).toInt64) (lwI_up hI (by omega) (upd_ne (by decide)) (upd_ne (by decide))) Hp locs ls hP hD hS hl
  · rw [if_neg hk] at hP hD
    have M := c_X6_ripest (l := l) (D := D) (cI := cI) (cC := cC) (cM := cM) (cB := cB) (cJ := cJ) (q := q) (hi := hi) (tx := T) (pa := pa) (ke := ke) (mr := mr) (hs := hs) (wr := xw0 cI cC cM cB ad z t T (nI nb) r x h ah (nI nx) (nI kp) zh [outC cJ o fo]) hn hz hB p1
    simp only [xwf, xv, if_neg hk] at M
    refine lv_aload_n hx hb dL_law_1500 rfl (lv_at hl 3 rfl) ?_
    refine lv_aload_n hx hb dL_law_1501 rfl (lv_at hl 1 rfl) ?_
    refine lv_iload hx hb dL_law_1502 (lv_at hl 5 rfl) ?_
    refine lv_iconst (v := 1) hx hb dL_law_1504 (by decide) ?_
    refine lv_iadd hx hb dL_law_1505 ?_
    refine z_sld hx hb hX hbl hbA hS s1 dL_law_1506 ?_
    refine z_callV1 (n := 1) (As := [.int p1]) (rest := []) S (zM_perm lw_perm lw_perm.symm M) qm_L_173 ⟨⟨qi_X6_ripest, qs_X6_ripest, qn_X6, qc_X6_ripest⟩, rfl, by decide, by decide, by decide +kernel⟩ ⟨Nat.le_of_ble_eq_true rfl, Nat.le_of_ble_eq_true rfl⟩ rfl rfl hN hK hP hD hS hA 140 rfl rfl rfl hl.1 rfl (Nat.le_of_ble_eq_true rfl) dL_law_1507 hcs (fun Hp locs hP hD hS => ?_)
    have hKt : (upd mr 2 (kRipest p1)) 2 = (kRipest p1) := upd_eq rfl
    have hKv : (kRipest p1) = 0 → fo 0 = (0 : Int32).toInt64 := fun h9 => absurd h9 hk
    refine lw_tail (o := o) (q := q) (fo := fo) S (zM_perm lw_perm lw_perm.symm (c_X6_thrown (q := q) (mr := (upd mr 2 (kRipest p1))))) ⟨Nat.le_of_ble_eq_true rfl, Nat.le_of_ble_eq_true rfl⟩ hN hK hP hD hS hA rfl rfl hcs hl hKt hKv dL_law_1510 dL_law_1512 dL_law_1513 dL_law_1516 dL_law_1518 dL_law_1523 dL_law_1525 dL_law_1528 dL_law_1529 dL_law_1530 dL_law_1531 dL_law_1533 dL_law_1534 dL_law_1535 dL_law_1540 (by decide) (fun Hp locs ls hP hD hS hl => ?_)
    exact kk n z zh nx kp hi H T nb r pa ke (upd mr 2 (kRipest p1)) hs fo (lwI_up hI (by omega) (upd_ne (by decide)) (upd_ne (by decide))) Hp locs ls hP hD hS hl
