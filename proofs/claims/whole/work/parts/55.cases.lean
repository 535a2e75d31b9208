/-! The cases of the law's loop. -/
theorem vt_10 {z : Nat → Int32} {bf : Int32} {j : Nat} (hj : j < 8) : vtB z j bf 10 = z 10 := by
  unfold vtB
  split
  · rw [upd_ne (by decide), upd_ne (by omega)]
  · rw [upd_ne (by decide), upd_ne (by omega)]
theorem lw_eq {cI cC cM cB : ClassId} {ad t : Nat → Nat} {x : Nat} {h : Nat → Nat} {ah : Nat → Nat → Nat} {q : Nat → Nat} {zc zm z : Nat → Int32} {zh : Nat → Nat → Int32} {sg r hi tx pa ke mr : Nat → Int32} {sz nx kp : Int32} {hs : Int64} {u : Nat × va_E} (hc : eqC zc z) (hm : eqM zm z) : xw0 cI cC cM cB ad zc t sg sz r x h ah nx kp zh (u :: moW cI q zm hi tx pa ke mr hs []) = xw0 cI cC cM cB ad z t sg sz r x h ah nx kp zh (u :: moW cI q z hi tx pa ke mr hs []) := by
  rw [moW_congr hm]
  exact bkW_congr hc
set_option maxHeartbeats 4000000 in
set_option maxRecDepth 100000 in
theorem k_join {p : Program} {l : Launch} {e : Env} {s : State} {m : MethodId} {below : List Frame} {meth : Method} {c : Code} {b L : Nat} {xs : Nat → Int32} {D : va_G} {cI cC cM cB cJ : ClassId} {ad t : Nat → Nat} {x : Nat} {h : Nat → Nat} {ah : Nat → Nat → Nat} {q : Nat → Nat} {o : Nat} {x4 : Int32} {C cells slots : Nat} {n : Nat} {z : Nat → Int32} {zh : Nat → Nat → Int32} {nx kp : Nat} {hi : Nat → Int32} {H : Nat → Nat → Int32} {T : Nat → Int32} {nb : Nat} {r pa ke mr : Nat → Int32} {hs : Int64} {fo : Nat → Int64} {Hp : Heap} {locs : List Loc} {ls : Array Slot} {p1 p2 p3 p4 : Int32}  (E : lwEnv p s m meth c b L xs D cI cC cM cB cJ) (hfl : l.stackTraces = false) (hC : C + 10 ≤ 6000) (hC1 : 1 ≤ C) (hI : lwI C n z zh nx kp hi H T nb mr) (hcs : cells + 1 ≤ 601024 ∧ slots + 6 ≤ 7293034) (hP : va_P D vwCl (xw0 cI cC cM cB ad z t T (nI nb) r x h ah (nI nx) (nI kp) zh (outC cJ o fo :: moW cI q z hi T pa ke mr hs [])) Hp) (hD : va_D (fun q : Nat => s.heap.size ≤ q) (xw0 cI cC cM cB ad z t T (nI nb) r x h ah (nI nx) (nI kp) zh (outC cJ o fo :: moW cI q z hi T pa ke mr hs []))) (hS : va_S (fun q : Nat => s.heap.size ≤ q) s.heap Hp locs) (hl : lv_has ls 9 (lwL b x o q x4)) (sc : lwScr xs L x4 p1 p2 p3 p4) (kk : lwK p l e s m below meth c b D cI cC cM cB cJ ad t x h ah q o x4 (C + 10) (cells + 1) (slots + 6)) : W p l e room_1 s m #[Value.ref b] below meth c Hp locs cells slots (lw_Z below #[Value.ref b] s) (F0 m 156 ls []) := by
  obtain ⟨⟨hx, hb, hr, hml, hown, hts, hX, hbl, hlocks, hgv⟩, hCn, hJ, hN, hK⟩ := id E
  have S : CallFix p m c code 9 s #[Value.ref b] TT RL := ⟨hx, hb, hml, hown, fun w hw => hts w (List.mem_filter.mp hw).1⟩
  have hA : ∀ q : Nat, s.heap.size ≤ q → (fun q : Nat => s.heap.size ≤ q) q := fun _ h => h
  have hbA : ¬ (fun q : Nat => s.heap.size ≤ q) b := Nat.not_le.mpr hbl
  obtain ⟨hR, hH, hnb, hT, hm0, hm1⟩ := id hI
  obtain ⟨hn, hz, hB, -⟩ := id hR
  obtain ⟨hnx, hkp, hBh, -⟩ := id hH
  obtain ⟨s1, s2, s3, s4⟩ := sc
  refine lv_aload_n hx hb dL_law_156 rfl (lv_at hl 1 rfl) ?_
  refine lv_aload_n hx hb dL_law_157 rfl (lv_at hl 3 rfl) ?_
  refine z_callH (n := 2) (As := [.ref x, .ref o]) (rest := []) S (c_L_join (fo := fo) (wr := moW cI q z hi T pa ke mr hs []) hfl hn hz hnx hkp hB) qm_L_88 ⟨qt_L_join, qn_L, qw_L_join⟩ ⟨by decide, by decide, by decide +kernel⟩ ⟨Nat.le_of_ble_eq_true rfl, Nat.le_of_ble_eq_true rfl⟩ rfl rfl hCn hJ hN hK hP hD hS hA rfl hl.1 rfl (Nat.le_of_ble_eq_true rfl) dL_law_158 hcs (fun Hp locs hP hD hS => ?_)
  refine lv_istore (lv' := (5, .int (kJoin n)) :: lwL b x o q x4) hx hb dL_law_161 hl (by decide) rfl (fun ls hl => ?_)
  by_cases hk : (kJoin n) = 0
  · rw [if_pos hk] at hP hD
    have n8 := k0_join hn hk
    have hZ : rOK (C + 10) (n + 1) (admZ z n) := ok_join hR n8
    have M := c_X6_join (l := l) (D := D) (cI := cI) (cC := cC) (cM := cM) (cB := cB) (cJ := cJ) (q := q) (hi := hi) (tx := T) (pa := pa) (ke := ke) (mr := mr) (hs := hs) (wr := xw0 cI cC cM cB ad (admZ z n) t T (nI nb) r x h ah (nI ((nx + 1) % 6)) (nI (min (kp + 1) 6)) (zup zh nx z) [outC cJ o (vp_updL fo 0 (nI n).toInt64)]) hn hz hkp hm0 hB
    simp only [xwf, xv, if_pos hk] at M
    refine lv_aload_n hx hb dL_law_163 rfl (lv_at hl 3 rfl) ?_
    refine z_callV1 (n := 0) (As := []) (rest := []) S (zM_perm lw_perm lw_perm.symm M) qm_L_93 ⟨⟨qi_X6_join, qs_X6_join, qn_X6, qc_X6_join⟩, rfl, by decide, by decide, by decide +kernel⟩ ⟨Nat.le_of_ble_eq_true rfl, Nat.le_of_ble_eq_true rfl⟩ rfl rfl hN hK hP hD hS hA 140 rfl rfl rfl hl.1 rfl (Nat.le_of_ble_eq_true rfl) dL_law_164 hcs (fun Hp locs hP hD hS => ?_)
    have hKt : (upd (upd mr 2 0) 0 (nI (min (kp + 1) 6))) 2 = (kJoin n) := by rw [hk]; exact (upd_ne (by decide)).trans (upd_eq rfl)
    have hKv : (kJoin n) = 0 → (vp_updL fo 0 (nI n).toInt64) 0 = ((nI n)).toInt64 := fun _ => pk_uLs.trans (congrArg Int32.toInt64 (show nI n = (nI n) from rfl))
    refine lw_tail (o := o) (q := q) (fo := (vp_updL fo 0 (nI n).toInt64)) S (zM_perm lw_perm lw_perm.symm (c_X6_thrown (q := q) (mr := (upd (upd mr 2 0) 0 (nI (min (kp + 1) 6)))))) ⟨Nat.le_of_ble_eq_true rfl, Nat.le_of_ble_eq_true rfl⟩ hN hK hP hD hS hA rfl rfl hcs hl hKt hKv dL_law_167 dL_law_169 dL_law_170 dL_law_173 dL_law_175 dL_law_180 dL_law_182 dL_law_185 dL_law_186 dL_law_187 dL_law_188 dL_law_190 dL_law_191 dL_law_192 dL_law_197 (by decide) (fun Hp locs ls hP hD hS hl => ?_)
    have hcC : eqC (admZ z n) (admZ z n) := fun _ _ _ _ => rfl
    have hmM : eqM (qz_join z n) (admZ z n) := fun _ _ => rfl
    rw [lw_eq hcC hmM] at hP hD
    exact kk (n + 1) (admZ z n) (zup zh nx z) ((nx + 1) % 6) (min (kp + 1) 6) (svH hi z kp) (svR H z kp) T nb r pa ke (upd (upd mr 2 0) 0 (nI (min (kp + 1) 6))) hs (vp_updL fo 0 (nI n).toInt64) (lwI_save hI (by omega) hZ (upd_eq rfl) ((upd_ne (by decide)).trans (upd_ne (by decide)))) Hp locs ls hP hD hS hl
  · rw [if_neg hk] at hP hD
    have M := c_X6_join (l := l) (D := D) (cI := cI) (cC := cC) (cM := cM) (cB := cB) (cJ := cJ) (q := q) (hi := hi) (tx := T) (pa := pa) (ke := ke) (mr := mr) (hs := hs) (wr := xw0 cI cC cM cB ad z t T (nI nb) r x h ah (nI nx) (nI kp) zh [outC cJ o fo]) hn hz hkp hm0 hB
    simp only [xwf, xv, if_neg hk] at M
    refine lv_aload_n hx hb dL_law_163 rfl (lv_at hl 3 rfl) ?_
    refine z_callV1 (n := 0) (As := []) (rest := []) S (zM_perm lw_perm lw_perm.symm M) qm_L_93 ⟨⟨qi_X6_join, qs_X6_join, qn_X6, qc_X6_join⟩, rfl, by decide, by decide, by decide +kernel⟩ ⟨Nat.le_of_ble_eq_true rfl, Nat.le_of_ble_eq_true rfl⟩ rfl rfl hN hK hP hD hS hA 140 rfl rfl rfl hl.1 rfl (Nat.le_of_ble_eq_true rfl) dL_law_164 hcs (fun Hp locs hP hD hS => ?_)
    have hKt : (upd mr 2 (kJoin n)) 2 = (kJoin n) := upd_eq rfl
    have hKv : (kJoin n) = 0 → fo 0 = (0 : Int32).toInt64 := fun h9 => absurd h9 hk
    refine lw_tail (o := o) (q := q) (fo := fo) S (zM_perm lw_perm lw_perm.symm (c_X6_thrown (q := q) (mr := (upd mr 2 (kJoin n))))) ⟨Nat.le_of_ble_eq_true rfl, Nat.le_of_ble_eq_true rfl⟩ hN hK hP hD hS hA rfl rfl hcs hl hKt hKv dL_law_167 dL_law_169 dL_law_170 dL_law_173 dL_law_175 dL_law_180 dL_law_182 dL_law_185 dL_law_186 dL_law_187 dL_law_188 dL_law_190 dL_law_191 dL_law_192 dL_law_197 (by decide) (fun Hp locs ls hP hD hS hl => ?_)
    exact kk n z zh nx kp hi H T nb r pa ke (upd mr 2 (kJoin n)) hs fo (lwI_up hI (by omega) (upd_ne (by decide)) (upd_ne (by decide))) Hp locs ls hP hD hS hl
set_option maxHeartbeats 4000000 in
set_option maxRecDepth 100000 in
theorem k_leave_a {p : Program} {l : Launch} {e : Env} {s : State} {m : MethodId} {below : List Frame} {meth : Method} {c : Code} {b L : Nat} {xs : Nat → Int32} {D : va_G} {cI cC cM cB cJ : ClassId} {ad t : Nat → Nat} {x : Nat} {h : Nat → Nat} {ah : Nat → Nat → Nat} {q : Nat → Nat} {o : Nat} {x4 : Int32} {C cells slots : Nat} {n : Nat} {z : Nat → Int32} {zh : Nat → Nat → Int32} {nx kp : Nat} {hi : Nat → Int32} {H : Nat → Nat → Int32} {T : Nat → Int32} {nb : Nat} {r pa ke mr : Nat → Int32} {hs : Int64} {fo : Nat → Int64} {Hp : Heap} {locs : List Loc} {ls : Array Slot} {p1 p2 p3 p4 : Int32} (hz2 : z 10 = -1) (E : lwEnv p s m meth c b L xs D cI cC cM cB cJ) (hfl : l.stackTraces = false) (hC : C + 10 ≤ 6000) (hC1 : 1 ≤ C) (hI : lwI C n z zh nx kp hi H T nb mr) (hcs : cells + 1 ≤ 601024 ∧ slots + 6 ≤ 7293034) (hP : va_P D vwCl (xw0 cI cC cM cB ad z t T (nI nb) r x h ah (nI nx) (nI kp) zh (outC cJ o fo :: moW cI q z hi T pa ke mr hs [])) Hp) (hD : va_D (fun q : Nat => s.heap.size ≤ q) (xw0 cI cC cM cB ad z t T (nI nb) r x h ah (nI nx) (nI kp) zh (outC cJ o fo :: moW cI q z hi T pa ke mr hs []))) (hS : va_S (fun q : Nat => s.heap.size ≤ q) s.heap Hp locs) (hl : lv_has ls 9 (lwL b x o q x4)) (sc : lwScr xs L x4 p1 p2 p3 p4) (kk : lwK p l e s m below meth c b D cI cC cM cB cJ ad t x h ah q o x4 (C + 10) (cells + 1) (slots + 6)) : W p l e room_1 s m #[Value.ref b] below meth c Hp locs cells slots (lw_Z below #[Value.ref b] s) (F0 m 200 ls []) := by
  obtain ⟨⟨hx, hb, hr, hml, hown, hts, hX, hbl, hlocks, hgv⟩, hCn, hJ, hN, hK⟩ := id E
  have S : CallFix p m c code 9 s #[Value.ref b] TT RL := ⟨hx, hb, hml, hown, fun w hw => hts w (List.mem_filter.mp hw).1⟩
  have hA : ∀ q : Nat, s.heap.size ≤ q → (fun q : Nat => s.heap.size ≤ q) q := fun _ h => h
  have hbA : ¬ (fun q : Nat => s.heap.size ≤ q) b := Nat.not_le.mpr hbl
  obtain ⟨hR, hH, hnb, hT, hm0, hm1⟩ := id hI
  obtain ⟨hn, hz, hB, -⟩ := id hR
  obtain ⟨hnx, hkp, hBh, -⟩ := id hH
  obtain ⟨s1, s2, s3, s4⟩ := sc
  refine lv_aload_n hx hb dL_law_200 rfl (lv_at hl 1 rfl) ?_
  refine lv_aload_n hx hb dL_law_201 rfl (lv_at hl 0 rfl) ?_
  refine lv_iload hx hb dL_law_202 (lv_at hl 4 rfl) ?_
  refine lv_iconst (v := 1) hx hb dL_law_204 (by decide) ?_
  refine lv_iadd hx hb dL_law_205 ?_
  refine z_sld hx hb hX hbl hbA hS s1 dL_law_206 ?_
  refine lv_aload_n hx hb dL_law_207 rfl (lv_at hl 3 rfl) ?_
  refine z_callH (n := 3) (As := [.ref x, .int p1, .ref o]) (rest := []) S (c_L_leave_a (fo := fo) (wr := moW cI q z hi T pa ke mr hs []) hfl hn hz hnx hkp hB hz2 p1) qm_L_97 ⟨qt_L_leave, qn_L, qw_L_leave⟩ ⟨by decide, by decide, by decide +kernel⟩ ⟨Nat.le_of_ble_eq_true rfl, Nat.le_of_ble_eq_true rfl⟩ rfl rfl hCn hJ hN hK hP hD hS hA rfl hl.1 rfl (Nat.le_of_ble_eq_true rfl) dL_law_208 hcs (fun Hp locs hP hD hS => ?_)
  refine lv_istore (lv' := (5, .int (kLeave z n p1)) :: lwL b x o q x4) hx hb dL_law_211 hl (by decide) rfl (fun ls hl => ?_)
  by_cases hk : (kLeave z n p1) = 0
  · rw [if_pos hk] at hP hD
    obtain ⟨a1, a2, a3⟩ := k0_leave hk
    obtain ⟨hj, ej⟩ := mP_j hn a1
    have hZ : rOK (C + 10) n (lvB z (cl p1)) := rOK_up (by omega) (ok_leave_a hC1 hR (by omega) hz2)
    have M := c_X6_leave_a (l := l) (D := D) (cI := cI) (cC := cC) (cM := cM) (cB := cB) (cJ := cJ) (q := q) (hi := hi) (tx := T) (pa := pa) (ke := ke) (mr := mr) (hs := hs) (wr := xw0 cI cC cM cB ad (outZ z (cl p1)) t T (nI nb) r x h ah (nI ((nx + 1) % 6)) (nI (min (kp + 1) 6)) (zup zh nx z) [outC cJ o (vp_updL fo 0 ((z (14 + 16 * cl p1 + 1))).toInt64)]) hn hz hkp hm0 hB hz2 p1
    simp only [xwf, xv, if_pos hk] at M
    refine lv_aload_n hx hb dL_law_213 rfl (lv_at hl 3 rfl) ?_
    refine lv_aload_n hx hb dL_law_214 rfl (lv_at hl 1 rfl) ?_
    refine lv_iload hx hb dL_law_215 (lv_at hl 5 rfl) ?_
    refine lv_iconst (v := 1) hx hb dL_law_217 (by decide) ?_
    refine lv_iadd hx hb dL_law_218 ?_
    refine z_sld hx hb hX hbl hbA hS s1 dL_law_219 ?_
    refine z_callV1 (n := 1) (As := [.int p1]) (rest := []) S (zM_perm lw_perm lw_perm.symm M) qm_L_100 ⟨⟨qi_X6_leave, qs_X6_leave, qn_X6, qc_X6_leave⟩, rfl, by decide, by decide, by decide +kernel⟩ ⟨Nat.le_of_ble_eq_true rfl, Nat.le_of_ble_eq_true rfl⟩ rfl rfl hN hK hP hD hS hA 140 rfl rfl rfl hl.1 rfl (Nat.le_of_ble_eq_true rfl) dL_law_220 hcs (fun Hp locs hP hD hS => ?_)
    have hKt : (upd (upd mr 2 0) 0 (nI (min (kp + 1) 6))) 2 = (kLeave z n p1) := by rw [hk]; exact (upd_ne (by decide)).trans (upd_eq rfl)
    have hKv : (kLeave z n p1) = 0 → (vp_updL fo 0 ((z (14 + 16 * cl p1 + 1))).toInt64) 0 = ((z (14 + 16 * cl p1 + 1))).toInt64 := fun _ => pk_uLs.trans (congrArg Int32.toInt64 (show (z (14 + 16 * cl p1 + 1)) = (z (14 + 16 * cl p1 + 1)) from rfl))
    refine lw_tail (o := o) (q := q) (fo := (vp_updL fo 0 ((z (14 + 16 * cl p1 + 1))).toInt64)) S (zM_perm lw_perm lw_perm.symm (c_X6_thrown (q := q) (mr := (upd (upd mr 2 0) 0 (nI (min (kp + 1) 6)))))) ⟨Nat.le_of_ble_eq_true rfl, Nat.le_of_ble_eq_true rfl⟩ hN hK hP hD hS hA rfl rfl hcs hl hKt hKv dL_law_223 dL_law_225 dL_law_226 dL_law_229 dL_law_231 dL_law_236 dL_law_238 dL_law_241 dL_law_242 dL_law_243 dL_law_244 dL_law_246 dL_law_247 dL_law_248 dL_law_253 (by decide) (fun Hp locs ls hP hD hS hl => ?_)
    have hcC : eqC (outZ z (cl p1)) (lvB z (cl p1)) := lv_c
    have hmM : eqM (qz_out z (cl p1)) (lvB z (cl p1)) := lv_m (by omega)
    rw [lw_eq hcC hmM] at hP hD
    exact kk n (lvB z (cl p1)) (zup zh nx z) ((nx + 1) % 6) (min (kp + 1) 6) (svH hi z kp) (svR H z kp) T nb r pa ke (upd (upd mr 2 0) 0 (nI (min (kp + 1) 6))) hs (vp_updL fo 0 ((z (14 + 16 * cl p1 + 1))).toInt64) (lwI_save hI (by omega) hZ (upd_eq rfl) ((upd_ne (by decide)).trans (upd_ne (by decide)))) Hp locs ls hP hD hS hl
  · rw [if_neg hk] at hP hD
    have M := c_X6_leave_a (l := l) (D := D) (cI := cI) (cC := cC) (cM := cM) (cB := cB) (cJ := cJ) (q := q) (hi := hi) (tx := T) (pa := pa) (ke := ke) (mr := mr) (hs := hs) (wr := xw0 cI cC cM cB ad z t T (nI nb) r x h ah (nI nx) (nI kp) zh [outC cJ o fo]) hn hz hkp hm0 hB hz2 p1
    simp only [xwf, xv, if_neg hk] at M
    refine lv_aload_n hx hb dL_law_213 rfl (lv_at hl 3 rfl) ?_
    refine lv_aload_n hx hb dL_law_214 rfl (lv_at hl 1 rfl) ?_
    refine lv_iload hx hb dL_law_215 (lv_at hl 5 rfl) ?_
    refine lv_iconst (v := 1) hx hb dL_law_217 (by decide) ?_
    refine lv_iadd hx hb dL_law_218 ?_
    refine z_sld hx hb hX hbl hbA hS s1 dL_law_219 ?_
    refine z_callV1 (n := 1) (As := [.int p1]) (rest := []) S (zM_perm lw_perm lw_perm.symm M) qm_L_100 ⟨⟨qi_X6_leave, qs_X6_leave, qn_X6, qc_X6_leave⟩, rfl, by decide, by decide, by decide +kernel⟩ ⟨Nat.le_of_ble_eq_true rfl, Nat.le_of_ble_eq_true rfl⟩ rfl rfl hN hK hP hD hS hA 140 rfl rfl rfl hl.1 rfl (Nat.le_of_ble_eq_true rfl) dL_law_220 hcs (fun Hp locs hP hD hS => ?_)
    have hKt : (upd mr 2 (kLeave z n p1)) 2 = (kLeave z n p1) := upd_eq rfl
    have hKv : (kLeave z n p1) = 0 → fo 0 = (0 : Int32).toInt64 := fun h9 => absurd h9 hk
    refine lw_tail (o := o) (q := q) (fo := fo) S (zM_perm lw_perm lw_perm.symm (c_X6_thrown (q := q) (mr := (upd mr 2 (kLeave z n p1))))) ⟨Nat.le_of_ble_eq_true rfl, Nat.le_of_ble_eq_true rfl⟩ hN hK hP hD hS hA rfl rfl hcs hl hKt hKv dL_law_223 dL_law_225 dL_law_226 dL_law_229 dL_law_231 dL_law_236 dL_law_238 dL_law_241 dL_law_242 dL_law_243 dL_law_244 dL_law_246 dL_law_247 dL_law_248 dL_law_253 (by decide) (fun Hp locs ls hP hD hS hl => ?_)
    exact kk n z zh nx kp hi H T nb r pa ke (upd mr 2 (kLeave z n p1)) hs fo (lwI_up hI (by omega) (upd_ne (by decide)) (upd_ne (by decide))) Hp locs ls hP hD hS hl
set_option maxHeartbeats 4000000 in
set_option maxRecDepth 100000 in
theorem k_leave_b {p : Program} {l : Launch} {e : Env} {s : State} {m : MethodId} {below : List Frame} {meth : Method} {c : Code} {b L : Nat} {xs : Nat → Int32} {D : va_G} {cI cC cM cB cJ : ClassId} {ad t : Nat → Nat} {x : Nat} {h : Nat → Nat} {ah : Nat → Nat → Nat} {q : Nat → Nat} {o : Nat} {x4 : Int32} {C cells slots : Nat} {n : Nat} {z : Nat → Int32} {zh : Nat → Nat → Int32} {nx kp : Nat} {hi : Nat → Int32} {H : Nat → Nat → Int32} {T : Nat → Int32} {nb : Nat} {r pa ke mr : Nat → Int32} {hs : Int64} {fo : Nat → Int64} {Hp : Heap} {locs : List Loc} {ls : Array Slot} {p1 p2 p3 p4 : Int32} {d : Nat} (hd : d < n) (hz2 : z 10 = nI d) (E : lwEnv p s m meth c b L xs D cI cC cM cB cJ) (hfl : l.stackTraces = false) (hC : C + 10 ≤ 6000) (hC1 : 1 ≤ C) (hI : lwI C n z zh nx kp hi H T nb mr) (hcs : cells + 1 ≤ 601024 ∧ slots + 6 ≤ 7293034) (hP : va_P D vwCl (xw0 cI cC cM cB ad z t T (nI nb) r x h ah (nI nx) (nI kp) zh (outC cJ o fo :: moW cI q z hi T pa ke mr hs [])) Hp) (hD : va_D (fun q : Nat => s.heap.size ≤ q) (xw0 cI cC cM cB ad z t T (nI nb) r x h ah (nI nx) (nI kp) zh (outC cJ o fo :: moW cI q z hi T pa ke mr hs []))) (hS : va_S (fun q : Nat => s.heap.size ≤ q) s.heap Hp locs) (hl : lv_has ls 9 (lwL b x o q x4)) (sc : lwScr xs L x4 p1 p2 p3 p4) (kk : lwK p l e s m below meth c b D cI cC cM cB cJ ad t x h ah q o x4 (C + 10) (cells + 1) (slots + 6)) : W p l e room_1 s m #[Value.ref b] below meth c Hp locs cells slots (lw_Z below #[Value.ref b] s) (F0 m 200 ls []) := by
  obtain ⟨⟨hx, hb, hr, hml, hown, hts, hX, hbl, hlocks, hgv⟩, hCn, hJ, hN, hK⟩ := id E
  have S : CallFix p m c code 9 s #[Value.ref b] TT RL := ⟨hx, hb, hml, hown, fun w hw => hts w (List.mem_filter.mp hw).1⟩
  have hA : ∀ q : Nat, s.heap.size ≤ q → (fun q : Nat => s.heap.size ≤ q) q := fun _ h => h
  have hbA : ¬ (fun q : Nat => s.heap.size ≤ q) b := Nat.not_le.mpr hbl
  obtain ⟨hR, hH, hnb, hT, hm0, hm1⟩ := id hI
  obtain ⟨hn, hz, hB, -⟩ := id hR
  obtain ⟨hnx, hkp, hBh, -⟩ := id hH
  obtain ⟨s1, s2, s3, s4⟩ := sc
  refine lv_aload_n hx hb dL_law_200 rfl (lv_at hl 1 rfl) ?_
  refine lv_aload_n hx hb dL_law_201 rfl (lv_at hl 0 rfl) ?_
  refine lv_iload hx hb dL_law_202 (lv_at hl 4 rfl) ?_
  refine lv_iconst (v := 1) hx hb dL_law_204 (by decide) ?_
  refine lv_iadd hx hb dL_law_205 ?_
  refine z_sld hx hb hX hbl hbA hS s1 dL_law_206 ?_
  refine lv_aload_n hx hb dL_law_207 rfl (lv_at hl 3 rfl) ?_
  refine z_callH (n := 3) (As := [.ref x, .int p1, .ref o]) (rest := []) S (c_L_leave_b (fo := fo) (wr := moW cI q z hi T pa ke mr hs []) hfl hn hz hnx hkp hB hd hz2 p1) qm_L_97 ⟨qt_L_leave, qn_L, qw_L_leave⟩ ⟨by decide, by decide, by decide +kernel⟩ ⟨Nat.le_of_ble_eq_true rfl, Nat.le_of_ble_eq_true rfl⟩ rfl rfl hCn hJ hN hK hP hD hS hA rfl hl.1 rfl (Nat.le_of_ble_eq_true rfl) dL_law_208 hcs (fun Hp locs hP hD hS => ?_)
  refine lv_istore (lv' := (5, .int (kLeave z n p1)) :: lwL b x o q x4) hx hb dL_law_211 hl (by decide) rfl (fun ls hl => ?_)
  by_cases hk : (kLeave z n p1) = 0
  · rw [if_pos hk] at hP hD
    obtain ⟨a1, a2, a3⟩ := k0_leave hk
    obtain ⟨hj, ej⟩ := mP_j hn a1
    obtain ⟨hZ, hcC0, hmM0⟩ := ok_leave_b (j := cl p1) hC1 (by omega) hR (by omega) hd hz2
    have M := c_X6_leave_b (l := l) (D := D) (cI := cI) (cC := cC) (cM := cM) (cB := cB) (cJ := cJ) (q := q) (hi := hi) (tx := T) (pa := pa) (ke := ke) (mr := mr) (hs := hs) (wr := xw0 cI cC cM cB ad (disZ z n (cl p1) d) t T (nI nb) r x h ah (nI ((nx + 1) % 6)) (nI (min (kp + 1) 6)) (zup zh nx z) [outC cJ o (vp_updL fo 0 ((z (14 + 16 * cl p1 + 1))).toInt64)]) hn hz hkp hm0 hB hd hz2 p1
    simp only [xwf, xv, if_pos hk] at M
    refine lv_aload_n hx hb dL_law_213 rfl (lv_at hl 3 rfl) ?_
    refine lv_aload_n hx hb dL_law_214 rfl (lv_at hl 1 rfl) ?_
    refine lv_iload hx hb dL_law_215 (lv_at hl 5 rfl) ?_
    refine lv_iconst (v := 1) hx hb dL_law_217 (by decide) ?_
    refine lv_iadd hx hb dL_law_218 ?_
    refine z_sld hx hb hX hbl hbA hS s1 dL_law_219 ?_
    refine z_callV1 (n := 1) (As := [.int p1]) (rest := []) S (zM_perm lw_perm lw_perm.symm M) qm_L_100 ⟨⟨qi_X6_leave, qs_X6_leave, qn_X6, qc_X6_leave⟩, rfl, by decide, by decide, by decide +kernel⟩ ⟨Nat.le_of_ble_eq_true rfl, Nat.le_of_ble_eq_true rfl⟩ rfl rfl hN hK hP hD hS hA 140 rfl rfl rfl hl.1 rfl (Nat.le_of_ble_eq_true rfl) dL_law_220 hcs (fun Hp locs hP hD hS => ?_)
    have hKt : (upd (upd mr 2 0) 0 (nI (min (kp + 1) 6))) 2 = (kLeave z n p1) := by rw [hk]; exact (upd_ne (by decide)).trans (upd_eq rfl)
    have hKv : (kLeave z n p1) = 0 → (vp_updL fo 0 ((z (14 + 16 * cl p1 + 1))).toInt64) 0 = ((z (14 + 16 * cl p1 + 1))).toInt64 := fun _ => pk_uLs.trans (congrArg Int32.toInt64 (show (z (14 + 16 * cl p1 + 1)) = (z (14 + 16 * cl p1 + 1)) from rfl))
    refine lw_tail (o := o) (q := q) (fo := (vp_updL fo 0 ((z (14 + 16 * cl p1 + 1))).toInt64)) S (zM_perm lw_perm lw_perm.symm (c_X6_thrown (q := q) (mr := (upd (upd mr 2 0) 0 (nI (min (kp + 1) 6)))))) ⟨Nat.le_of_ble_eq_true rfl, Nat.le_of_ble_eq_true rfl⟩ hN hK hP hD hS hA rfl rfl hcs hl hKt hKv dL_law_223 dL_law_225 dL_law_226 dL_law_229 dL_law_231 dL_law_236 dL_law_238 dL_law_241 dL_law_242 dL_law_243 dL_law_244 dL_law_246 dL_law_247 dL_law_248 dL_law_253 (by decide) (fun Hp locs ls hP hD hS hl => ?_)
    have hcC : eqC (disZ z n (cl p1) d) (lvZ z n (cl p1) d) := hcC0
    have hmM : eqM (qz_leave z n (cl p1) d) (lvZ z n (cl p1) d) := hmM0
    rw [lw_eq hcC hmM] at hP hD
    exact kk n (lvZ z n (cl p1) d) (zup zh nx z) ((nx + 1) % 6) (min (kp + 1) 6) (svH hi z kp) (svR H z kp) T nb r pa ke (upd (upd mr 2 0) 0 (nI (min (kp + 1) 6))) hs (vp_updL fo 0 ((z (14 + 16 * cl p1 + 1))).toInt64) (lwI_save hI (by omega) hZ (upd_eq rfl) ((upd_ne (by decide)).trans (upd_ne (by decide)))) Hp locs ls hP hD hS hl
  · rw [if_neg hk] at hP hD
    have M := c_X6_leave_b (l := l) (D := D) (cI := cI) (cC := cC) (cM := cM) (cB := cB) (cJ := cJ) (q := q) (hi := hi) (tx := T) (pa := pa) (ke := ke) (mr := mr) (hs := hs) (wr := xw0 cI cC cM cB ad z t T (nI nb) r x h ah (nI nx) (nI kp) zh [outC cJ o fo]) hn hz hkp hm0 hB hd hz2 p1
    simp only [xwf, xv, if_neg hk] at M
    refine lv_aload_n hx hb dL_law_213 rfl (lv_at hl 3 rfl) ?_
    refine lv_aload_n hx hb dL_law_214 rfl (lv_at hl 1 rfl) ?_
    refine lv_iload hx hb dL_law_215 (lv_at hl 5 rfl) ?_
    refine lv_iconst (v := 1) hx hb dL_law_217 (by decide) ?_
    refine lv_iadd hx hb dL_law_218 ?_
    refine z_sld hx hb hX hbl hbA hS s1 dL_law_219 ?_
    refine z_callV1 (n := 1) (As := [.int p1]) (rest := []) S (zM_perm lw_perm lw_perm.symm M) qm_L_100 ⟨⟨qi_X6_leave, qs_X6_leave, qn_X6, qc_X6_leave⟩, rfl, by decide, by decide, by decide +kernel⟩ ⟨Nat.le_of_ble_eq_true rfl, Nat.le_of_ble_eq_true rfl⟩ rfl rfl hN hK hP hD hS hA 140 rfl rfl rfl hl.1 rfl (Nat.le_of_ble_eq_true rfl) dL_law_220 hcs (fun Hp locs hP hD hS => ?_)
    have hKt : (upd mr 2 (kLeave z n p1)) 2 = (kLeave z n p1) := upd_eq rfl
    have hKv : (kLeave z n p1) = 0 → fo 0 = (0 : Int32).toInt64 := fun h9 => absurd h9 hk
    refine lw_tail (o := o) (q := q) (fo := fo) S (zM_perm lw_perm lw_perm.symm (c_X6_thrown (q := q) (mr := (upd mr 2 (kLeave z n p1))))) ⟨Nat.le_of_ble_eq_true rfl, Nat.le_of_ble_eq_true rfl⟩ hN hK hP hD hS hA rfl rfl hcs hl hKt hKv dL_law_223 dL_law_225 dL_law_226 dL_law_229 dL_law_231 dL_law_236 dL_law_238 dL_law_241 dL_law_242 dL_law_243 dL_law_244 dL_law_246 dL_law_247 dL_law_248 dL_law_253 (by decide) (fun Hp locs ls hP hD hS hl => ?_)
    exact kk n z zh nx kp hi H T nb r pa ke (upd mr 2 (kLeave z n p1)) hs fo (lwI_up hI (by omega) (upd_ne (by decide)) (upd_ne (by decide))) Hp locs ls hP hD hS hl
set_option maxHeartbeats 4000000 in
set_option maxRecDepth 100000 in
theorem k_give {p : Program} {l : Launch} {e : Env} {s : State} {m : MethodId} {below : List Frame} {meth : Method} {c : Code} {b L : Nat} {xs : Nat → Int32} {D : va_G} {cI cC cM cB cJ : ClassId} {ad t : Nat → Nat} {x : Nat} {h : Nat → Nat} {ah : Nat → Nat → Nat} {q : Nat → Nat} {o : Nat} {x4 : Int32} {C cells slots : Nat} {n : Nat} {z : Nat → Int32} {zh : Nat → Nat → Int32} {nx kp : Nat} {hi : Nat → Int32} {H : Nat → Nat → Int32} {T : Nat → Int32} {nb : Nat} {r pa ke mr : Nat → Int32} {hs : Int64} {fo : Nat → Int64} {Hp : Heap} {locs : List Loc} {ls : Array Slot} {p1 p2 p3 p4 : Int32}  (E : lwEnv p s m meth c b L xs D cI cC cM cB cJ) (hfl : l.stackTraces = false) (hC : C + 10 ≤ 6000) (hC1 : 1 ≤ C) (hI : lwI C n z zh nx kp hi H T nb mr) (hcs : cells + 1 ≤ 601024 ∧ slots + 6 ≤ 7293034) (hP : va_P D vwCl (xw0 cI cC cM cB ad z t T (nI nb) r x h ah (nI nx) (nI kp) zh (outC cJ o fo :: moW cI q z hi T pa ke mr hs [])) Hp) (hD : va_D (fun q : Nat => s.heap.size ≤ q) (xw0 cI cC cM cB ad z t T (nI nb) r x h ah (nI nx) (nI kp) zh (outC cJ o fo :: moW cI q z hi T pa ke mr hs []))) (hS : va_S (fun q : Nat => s.heap.size ≤ q) s.heap Hp locs) (hl : lv_has ls 9 (lwL b x o q x4)) (sc : lwScr xs L x4 p1 p2 p3 p4) (kk : lwK p l e s m below meth c b D cI cC cM cB cJ ad t x h ah q o x4 (C + 10) (cells + 1) (slots + 6)) : W p l e room_1 s m #[Value.ref b] below meth c Hp locs cells slots (lw_Z below #[Value.ref b] s) (F0 m 256 ls []) := by
  obtain ⟨⟨hx, hb, hr, hml, hown, hts, hX, hbl, hlocks, hgv⟩, hCn, hJ, hN, hK⟩ := id E
  have S : CallFix p m c code 9 s #[Value.ref b] TT RL := ⟨hx, hb, hml, hown, fun w hw => hts w (List.mem_filter.mp hw).1⟩
  have hA : ∀ q : Nat, s.heap.size ≤ q → (fun q : Nat => s.heap.size ≤ q) q := fun _ h => h
  have hbA : ¬ (fun q : Nat => s.heap.size ≤ q) b := Nat.not_le.mpr hbl
  obtain ⟨hR, hH, hnb, hT, hm0, hm1⟩ := id hI
  obtain ⟨hn, hz, hB, -⟩ := id hR
  obtain ⟨hnx, hkp, hBh, -⟩ := id hH
  obtain ⟨s1, s2, s3, s4⟩ := sc
  refine lv_aload_n hx hb dL_law_256 rfl (lv_at hl 1 rfl) ?_
  refine lv_aload_n hx hb dL_law_257 rfl (lv_at hl 0 rfl) ?_
  refine lv_iload hx hb dL_law_258 (lv_at hl 4 rfl) ?_
  refine lv_iconst (v := 1) hx hb dL_law_260 (by decide) ?_
  refine lv_iadd hx hb dL_law_261 ?_
  refine z_sld hx hb hX hbl hbA hS s1 dL_law_262 ?_
  refine lv_aload_n hx hb dL_law_263 rfl (lv_at hl 0 rfl) ?_
  refine lv_iload hx hb dL_law_264 (lv_at hl 4 rfl) ?_
  refine lv_iconst (v := 2) hx hb dL_law_266 (by decide) ?_
  refine lv_iadd hx hb dL_law_267 ?_
  refine z_sld hx hb hX hbl hbA hS s2 dL_law_268 ?_
  refine lv_aload_n hx hb dL_law_269 rfl (lv_at hl 0 rfl) ?_
  refine lv_iload hx hb dL_law_270 (lv_at hl 4 rfl) ?_
  refine lv_iconst (v := 3) hx hb dL_law_272 (by decide) ?_
  refine lv_iadd hx hb dL_law_273 ?_
  refine z_sld hx hb hX hbl hbA hS s3 dL_law_274 ?_
  refine lv_aload_n hx hb dL_law_275 rfl (lv_at hl 0 rfl) ?_
  refine lv_iload hx hb dL_law_276 (lv_at hl 4 rfl) ?_
  refine lv_iconst (v := 4) hx hb dL_law_278 (by decide) ?_
  refine lv_iadd hx hb dL_law_279 ?_
  refine z_sld hx hb hX hbl hbA hS s4 dL_law_280 ?_
  refine lv_aload_n hx hb dL_law_281 rfl (lv_at hl 3 rfl) ?_
  refine z_callH (n := 6) (As := [.ref x, .int p1, .int p2, .int p3, .int p4, .ref o]) (rest := []) S (c_L_give (fo := fo) (wr := moW cI q z hi T pa ke mr hs []) hfl hn hz hnx hkp hB p1 p2 p3 p4) qm_L_101 ⟨qt_L_give, qn_L, qw_L_give⟩ ⟨by decide, by decide, by decide +kernel⟩ ⟨Nat.le_of_ble_eq_true rfl, Nat.le_of_ble_eq_true rfl⟩ rfl rfl hCn hJ hN hK hP hD hS hA rfl hl.1 rfl (Nat.le_of_ble_eq_true rfl) dL_law_282 hcs (fun Hp locs hP hD hS => ?_)
  refine lv_istore (lv' := (5, .int (kGive z n p1 p2 p3 p4)) :: lwL b x o q x4) hx hb dL_law_285 hl (by decide) rfl (fun ls hl => ?_)
  by_cases hk : (kGive z n p1 p2 p3 p4) = 0
  · rw [if_pos hk] at hP hD
    obtain ⟨a1, a2, a3, a4, a5, a6⟩ := k0_give hk
    obtain ⟨g1, g2⟩ := mP_j hn a1
    obtain ⟨t1, t2⟩ := mP_j hn a2
    obtain ⟨k1, k2⟩ := sP_j a3
    have hZ : rOK (C + 10) n (dealZ z (cl p1) (cl p2) (cl p3) p4) := rOK_up (by omega) (ok_deal (by omega) hR (by omega) (by omega) (fun q => a4 (by rw [g2, t2, q])) k1 (inP_600 a5) a6.2.2.2)
    have M := c_X6_give (l := l) (D := D) (cI := cI) (cC := cC) (cM := cM) (cB := cB) (cJ := cJ) (q := q) (hi := hi) (tx := T) (pa := pa) (ke := ke) (mr := mr) (hs := hs) (wr := xw0 cI cC cM cB ad (dealZ z (cl p1) (cl p2) (cl p3) p4) t T (nI nb) r x h ah (nI ((nx + 1) % 6)) (nI (min (kp + 1) 6)) (zup zh nx z) [outC cJ o (vp_updL fo 0 ((valP (z (25 + 16 * cl p1 + cl p3)) p4)).toInt64)]) hn hz hkp hm0 hB p1 p2 p3 p4
    simp only [xwf, xv, if_pos hk] at M
    refine lv_aload_n hx hb dL_law_287 rfl (lv_at hl 3 rfl) ?_
    refine lv_aload_n hx hb dL_law_288 rfl (lv_at hl 1 rfl) ?_
    refine lv_iload hx hb dL_law_289 (lv_at hl 5 rfl) ?_
    refine lv_iconst (v := 1) hx hb dL_law_291 (by decide) ?_
    refine lv_iadd hx hb dL_law_292 ?_
    refine z_sld hx hb hX hbl hbA hS s1 dL_law_293 ?_
    refine lv_aload_n hx hb dL_law_294 rfl (lv_at hl 1 rfl) ?_
    refine lv_iload hx hb dL_law_295 (lv_at hl 5 rfl) ?_
    refine lv_iconst (v := 2) hx hb dL_law_297 (by decide) ?_
    refine lv_iadd hx hb dL_law_298 ?_
    refine z_sld hx hb hX hbl hbA hS s2 dL_law_299 ?_
    refine lv_aload_n hx hb dL_law_300 rfl (lv_at hl 1 rfl) ?_
    refine lv_iload hx hb dL_law_301 (lv_at hl 5 rfl) ?_
    refine lv_iconst (v := 3) hx hb dL_law_303 (by decide) ?_
    refine lv_iadd hx hb dL_law_304 ?_
    refine z_sld hx hb hX hbl hbA hS s3 dL_law_305 ?_
    refine lv_aload_n hx hb dL_law_306 rfl (lv_at hl 1 rfl) ?_
    refine lv_iload hx hb dL_law_307 (lv_at hl 5 rfl) ?_
    refine lv_iconst (v := 4) hx hb dL_law_309 (by decide) ?_
    refine lv_iadd hx hb dL_law_310 ?_
    refine z_sld hx hb hX hbl hbA hS s4 dL_law_311 ?_
    refine z_callV1 (n := 4) (As := [.int p1, .int p2, .int p3, .int p4]) (rest := []) S (zM_perm lw_perm lw_perm.symm M) qm_L_104 ⟨⟨qi_X6_give, qs_X6_give, qn_X6, qc_X6_give⟩, rfl, by decide, by decide, by decide +kernel⟩ ⟨Nat.le_of_ble_eq_true rfl, Nat.le_of_ble_eq_true rfl⟩ rfl rfl hN hK hP hD hS hA 140 rfl rfl rfl hl.1 rfl (Nat.le_of_ble_eq_true rfl) dL_law_312 hcs (fun Hp locs hP hD hS => ?_)
    have hKt : (upd (upd mr 2 0) 0 (nI (min (kp + 1) 6))) 2 = (kGive z n p1 p2 p3 p4) := by rw [hk]; exact (upd_ne (by decide)).trans (upd_eq rfl)
    have hKv : (kGive z n p1 p2 p3 p4) = 0 → (vp_updL fo 0 ((valP (z (25 + 16 * cl p1 + cl p3)) p4)).toInt64) 0 = ((valP (z (25 + 16 * cl p1 + cl p3)) p4)).toInt64 := fun _ => pk_uLs.trans (congrArg Int32.toInt64 (show (valP (z (25 + 16 * cl p1 + cl p3)) p4) = (valP (z (25 + 16 * cl p1 + cl p3)) p4) from rfl))
    refine lw_tail (o := o) (q := q) (fo := (vp_updL fo 0 ((valP (z (25 + 16 * cl p1 + cl p3)) p4)).toInt64)) S (zM_perm lw_perm lw_perm.symm (c_X6_thrown (q := q) (mr := (upd (upd mr 2 0) 0 (nI (min (kp + 1) 6)))))) ⟨Nat.le_of_ble_eq_true rfl, Nat.le_of_ble_eq_true rfl⟩ hN hK hP hD hS hA rfl rfl hcs hl hKt hKv dL_law_315 dL_law_317 dL_law_318 dL_law_321 dL_law_323 dL_law_328 dL_law_330 dL_law_333 dL_law_334 dL_law_335 dL_law_336 dL_law_338 dL_law_339 dL_law_340 dL_law_345 (by decide) (fun Hp locs ls hP hD hS hl => ?_)
    have hcC : eqC (dealZ z (cl p1) (cl p2) (cl p3) p4) (dealZ z (cl p1) (cl p2) (cl p3) p4) := fun _ _ _ _ => rfl
    have hmM : eqM (dealZ z (cl p1) (cl p2) (cl p3) p4) (dealZ z (cl p1) (cl p2) (cl p3) p4) := fun _ _ => rfl
    rw [lw_eq hcC hmM] at hP hD
    exact kk n (dealZ z (cl p1) (cl p2) (cl p3) p4) (zup zh nx z) ((nx + 1) % 6) (min (kp + 1) 6) (svH hi z kp) (svR H z kp) T nb r pa ke (upd (upd mr 2 0) 0 (nI (min (kp + 1) 6))) hs (vp_updL fo 0 ((valP (z (25 + 16 * cl p1 + cl p3)) p4)).toInt64) (lwI_save hI (by omega) hZ (upd_eq rfl) ((upd_ne (by decide)).trans (upd_ne (by decide)))) Hp locs ls hP hD hS hl
  · rw [if_neg hk] at hP hD
    have M := c_X6_give (l := l) (D := D) (cI := cI) (cC := cC) (cM := cM) (cB := cB) (cJ := cJ) (q := q) (hi := hi) (tx := T) (pa := pa) (ke := ke) (mr := mr) (hs := hs) (wr := xw0 cI cC cM cB ad z t T (nI nb) r x h ah (nI nx) (nI kp) zh [outC cJ o fo]) hn hz hkp hm0 hB p1 p2 p3 p4
    simp only [xwf, xv, if_neg hk] at M
    refine lv_aload_n hx hb dL_law_287 rfl (lv_at hl 3 rfl) ?_
    refine lv_aload_n hx hb dL_law_288 rfl (lv_at hl 1 rfl) ?_
    refine lv_iload hx hb dL_law_289 (lv_at hl 5 rfl) ?_
    refine lv_iconst (v := 1) hx hb dL_law_291 (by decide) ?_
    refine lv_iadd hx hb dL_law_292 ?_
    refine z_sld hx hb hX hbl hbA hS s1 dL_law_293 ?_
    refine lv_aload_n hx hb dL_law_294 rfl (lv_at hl 1 rfl) ?_
    refine lv_iload hx hb dL_law_295 (lv_at hl 5 rfl) ?_
    refine lv_iconst (v := 2) hx hb dL_law_297 (by decide) ?_
    refine lv_iadd hx hb dL_law_298 ?_
    refine z_sld hx hb hX hbl hbA hS s2 dL_law_299 ?_
    refine lv_aload_n hx hb dL_law_300 rfl (lv_at hl 1 rfl) ?_
    refine lv_iload hx hb dL_law_301 (lv_at hl 5 rfl) ?_
    refine lv_iconst (v := 3) hx hb dL_law_303 (by decide) ?_
    refine lv_iadd hx hb dL_law_304 ?_
    refine z_sld hx hb hX hbl hbA hS s3 dL_law_305 ?_
    refine lv_aload_n hx hb dL_law_306 rfl (lv_at hl 1 rfl) ?_
    refine lv_iload hx hb dL_law_307 (lv_at hl 5 rfl) ?_
    refine lv_iconst (v := 4) hx hb dL_law_309 (by decide) ?_
    refine lv_iadd hx hb dL_law_310 ?_
    refine z_sld hx hb hX hbl hbA hS s4 dL_law_311 ?_
    refine z_callV1 (n := 4) (As := [.int p1, .int p2, .int p3, .int p4]) (rest := []) S (zM_perm lw_perm lw_perm.symm M) qm_L_104 ⟨⟨qi_X6_give, qs_X6_give, qn_X6, qc_X6_give⟩, rfl, by decide, by decide, by decide +kernel⟩ ⟨Nat.le_of_ble_eq_true rfl, Nat.le_of_ble_eq_true rfl⟩ rfl rfl hN hK hP hD hS hA 140 rfl rfl rfl hl.1 rfl (Nat.le_of_ble_eq_true rfl) dL_law_312 hcs (fun Hp locs hP hD hS => ?_)
    have hKt : (upd mr 2 (kGive z n p1 p2 p3 p4)) 2 = (kGive z n p1 p2 p3 p4) := upd_eq rfl
    have hKv : (kGive z n p1 p2 p3 p4) = 0 → fo 0 = (0 : Int32).toInt64 := fun h9 => absurd h9 hk
    refine lw_tail (o := o) (q := q) (fo := fo) S (zM_perm lw_perm lw_perm.symm (c_X6_thrown (q := q) (mr := (upd mr 2 (kGive z n p1 p2 p3 p4))))) ⟨Nat.le_of_ble_eq_true rfl, Nat.le_of_ble_eq_true rfl⟩ hN hK hP hD hS hA rfl rfl hcs hl hKt hKv dL_law_315 dL_law_317 dL_law_318 dL_law_321 dL_law_323 dL_law_328 dL_law_330 dL_law_333 dL_law_334 dL_law_335 dL_law_336 dL_law_338 dL_law_339 dL_law_340 dL_law_345 (by decide) (fun Hp locs ls hP hD hS hl => ?_)
    exact kk n z zh nx kp hi H T nb r pa ke (upd mr 2 (kGive z n p1 p2 p3 p4)) hs fo (lwI_up hI (by omega) (upd_ne (by decide)) (upd_ne (by decide))) Hp locs ls hP hD hS hl
set_option maxHeartbeats 4000000 in
set_option maxRecDepth 100000 in
theorem k_donate {p : Program} {l : Launch} {e : Env} {s : State} {m : MethodId} {below : List Frame} {meth : Method} {c : Code} {b L : Nat} {xs : Nat → Int32} {D : va_G} {cI cC cM cB cJ : ClassId} {ad t : Nat → Nat} {x : Nat} {h : Nat → Nat} {ah : Nat → Nat → Nat} {q : Nat → Nat} {o : Nat} {x4 : Int32} {C cells slots : Nat} {n : Nat} {z : Nat → Int32} {zh : Nat → Nat → Int32} {nx kp : Nat} {hi : Nat → Int32} {H : Nat → Nat → Int32} {T : Nat → Int32} {nb : Nat} {r pa ke mr : Nat → Int32} {hs : Int64} {fo : Nat → Int64} {Hp : Heap} {locs : List Loc} {ls : Array Slot} {p1 p2 p3 p4 : Int32}  (E : lwEnv p s m meth c b L xs D cI cC cM cB cJ) (hfl : l.stackTraces = false) (hC : C + 10 ≤ 6000) (hC1 : 1 ≤ C) (hI : lwI C n z zh nx kp hi H T nb mr) (hcs : cells + 1 ≤ 601024 ∧ slots + 6 ≤ 7293034) (hP : va_P D vwCl (xw0 cI cC cM cB ad z t T (nI nb) r x h ah (nI nx) (nI kp) zh (outC cJ o fo :: moW cI q z hi T pa ke mr hs [])) Hp) (hD : va_D (fun q : Nat => s.heap.size ≤ q) (xw0 cI cC cM cB ad z t T (nI nb) r x h ah (nI nx) (nI kp) zh (outC cJ o fo :: moW cI q z hi T pa ke mr hs []))) (hS : va_S (fun q : Nat => s.heap.size ≤ q) s.heap Hp locs) (hl : lv_has ls 9 (lwL b x o q x4)) (sc : lwScr xs L x4 p1 p2 p3 p4) (kk : lwK p l e s m below meth c b D cI cC cM cB cJ ad t x h ah q o x4 (C + 10) (cells + 1) (slots + 6)) : W p l e room_1 s m #[Value.ref b] below meth c Hp locs cells slots (lw_Z below #[Value.ref b] s) (F0 m 348 ls []) := by
  obtain ⟨⟨hx, hb, hr, hml, hown, hts, hX, hbl, hlocks, hgv⟩, hCn, hJ, hN, hK⟩ := id E
  have S : CallFix p m c code 9 s #[Value.ref b] TT RL := ⟨hx, hb, hml, hown, fun w hw => hts w (List.mem_filter.mp hw).1⟩
  have hA : ∀ q : Nat, s.heap.size ≤ q → (fun q : Nat => s.heap.size ≤ q) q := fun _ h => h
  have hbA : ¬ (fun q : Nat => s.heap.size ≤ q) b := Nat.not_le.mpr hbl
  obtain ⟨hR, hH, hnb, hT, hm0, hm1⟩ := id hI
  obtain ⟨hn, hz, hB, -⟩ := id hR
  obtain ⟨hnx, hkp, hBh, -⟩ := id hH
  obtain ⟨s1, s2, s3, s4⟩ := sc
  refine lv_aload_n hx hb dL_law_348 rfl (lv_at hl 1 rfl) ?_
  refine lv_aload_n hx hb dL_law_349 rfl (lv_at hl 0 rfl) ?_
  refine lv_iload hx hb dL_law_350 (lv_at hl 4 rfl) ?_
  refine lv_iconst (v := 1) hx hb dL_law_352 (by decide) ?_
  refine lv_iadd hx hb dL_law_353 ?_
  refine z_sld hx hb hX hbl hbA hS s1 dL_law_354 ?_
  refine lv_aload_n hx hb dL_law_355 rfl (lv_at hl 0 rfl) ?_
  refine lv_iload hx hb dL_law_356 (lv_at hl 4 rfl) ?_
  refine lv_iconst (v := 2) hx hb dL_law_358 (by decide) ?_
  refine lv_iadd hx hb dL_law_359 ?_
  refine z_sld hx hb hX hbl hbA hS s2 dL_law_360 ?_
  refine lv_aload_n hx hb dL_law_361 rfl (lv_at hl 3 rfl) ?_
  refine z_callH (n := 4) (As := [.ref x, .int p1, .int p2, .ref o]) (rest := []) S (c_L_donate (fo := fo) (wr := moW cI q z hi T pa ke mr hs []) hfl hn hz hnx hkp hB p1 p2) qm_L_105 ⟨qt_L_donate, qn_L, qw_L_donate⟩ ⟨by decide, by decide, by decide +kernel⟩ ⟨Nat.le_of_ble_eq_true rfl, Nat.le_of_ble_eq_true rfl⟩ rfl rfl hCn hJ hN hK hP hD hS hA rfl hl.1 rfl (Nat.le_of_ble_eq_true rfl) dL_law_362 hcs (fun Hp locs hP hD hS => ?_)
  refine lv_istore (lv' := (5, .int (kDonate z n p1 p2)) :: lwL b x o q x4) hx hb dL_law_365 hl (by decide) rfl (fun ls hl => ?_)
  by_cases hk : (kDonate z n p1 p2) = 0
  · rw [if_pos hk] at hP hD
    obtain ⟨a1, a2, a3⟩ := k0_donate hk
    obtain ⟨hj, ej⟩ := mP_j hn a1
    have hZ : rOK (C + 10) n (payZ z (cl p1) p2) := rOK_up (by omega) (ok_pay (by omega) hR (by omega) (inP_999 a2) a3)
    have M := c_X6_donate (l := l) (D := D) (cI := cI) (cC := cC) (cM := cM) (cB := cB) (cJ := cJ) (q := q) (hi := hi) (tx := T) (pa := pa) (ke := ke) (mr := mr) (hs := hs) (wr := xw0 cI cC cM cB ad (payZ z (cl p1) p2) t T (nI nb) r x h ah (nI ((nx + 1) % 6)) (nI (min (kp + 1) 6)) (zup zh nx z) [outC cJ o (vp_updL fo 0 ((z (14 + 16 * cl p1 + 1) - p2)).toInt64)]) hn hz hkp hm0 hB p1 p2
    simp only [xwf, xv, if_pos hk] at M
    refine lv_aload_n hx hb dL_law_367 rfl (lv_at hl 3 rfl) ?_
    refine lv_aload_n hx hb dL_law_368 rfl (lv_at hl 1 rfl) ?_
    refine lv_iload hx hb dL_law_369 (lv_at hl 5 rfl) ?_
    refine lv_iconst (v := 1) hx hb dL_law_371 (by decide) ?_
    refine lv_iadd hx hb dL_law_372 ?_
    refine z_sld hx hb hX hbl hbA hS s1 dL_law_373 ?_
    refine lv_aload_n hx hb dL_law_374 rfl (lv_at hl 1 rfl) ?_
    refine lv_iload hx hb dL_law_375 (lv_at hl 5 rfl) ?_
    refine lv_iconst (v := 2) hx hb dL_law_377 (by decide) ?_
    refine lv_iadd hx hb dL_law_378 ?_
    refine z_sld hx hb hX hbl hbA hS s2 dL_law_379 ?_
    refine z_callV1 (n := 2) (As := [.int p1, .int p2]) (rest := []) S (zM_perm lw_perm lw_perm.symm M) qm_L_108 ⟨⟨qi_X6_donate, qs_X6_donate, qn_X6, qc_X6_donate⟩, rfl, by decide, by decide, by decide +kernel⟩ ⟨Nat.le_of_ble_eq_true rfl, Nat.le_of_ble_eq_true rfl⟩ rfl rfl hN hK hP hD hS hA 140 rfl rfl rfl hl.1 rfl (Nat.le_of_ble_eq_true rfl) dL_law_380 hcs (fun Hp locs hP hD hS => ?_)
    have hKt : (upd (upd mr 2 0) 0 (nI (min (kp + 1) 6))) 2 = (kDonate z n p1 p2) := by rw [hk]; exact (upd_ne (by decide)).trans (upd_eq rfl)
    have hKv : (kDonate z n p1 p2) = 0 → (vp_updL fo 0 ((z (14 + 16 * cl p1 + 1) - p2)).toInt64) 0 = ((z (14 + 16 * cl p1 + 1) + (-p2))).toInt64 := fun _ => pk_uLs.trans (congrArg Int32.toInt64 (show (z (14 + 16 * cl p1 + 1) - p2) = (z (14 + 16 * cl p1 + 1) + (-p2)) from Int32.sub_eq_add_neg _ _))
    refine lw_tail (o := o) (q := q) (fo := (vp_updL fo 0 ((z (14 + 16 * cl p1 + 1) - p2)).toInt64)) S (zM_perm lw_perm lw_perm.symm (c_X6_thrown (q := q) (mr := (upd (upd mr 2 0) 0 (nI (min (kp + 1) 6)))))) ⟨Nat.le_of_ble_eq_true rfl, Nat.le_of_ble_eq_true rfl⟩ hN hK hP hD hS hA rfl rfl hcs hl hKt hKv dL_law_383 dL_law_385 dL_law_386 dL_law_389 dL_law_391 dL_law_396 dL_law_398 dL_law_401 dL_law_402 dL_law_403 dL_law_404 dL_law_406 dL_law_407 dL_law_408 dL_law_413 (by decide) (fun Hp locs ls hP hD hS hl => ?_)
    have hcC : eqC (payZ z (cl p1) p2) (payZ z (cl p1) p2) := fun _ _ _ _ => rfl
    have hmM : eqM (qz_pay z (cl p1) p2) (payZ z (cl p1) p2) := fun _ _ => by rw [ag_pay]
    rw [lw_eq hcC hmM] at hP hD
    exact kk n (payZ z (cl p1) p2) (zup zh nx z) ((nx + 1) % 6) (min (kp + 1) 6) (svH hi z kp) (svR H z kp) T nb r pa ke (upd (upd mr 2 0) 0 (nI (min (kp + 1) 6))) hs (vp_updL fo 0 ((z (14 + 16 * cl p1 + 1) - p2)).toInt64) (lwI_save hI (by omega) hZ (upd_eq rfl) ((upd_ne (by decide)).trans (upd_ne (by decide)))) Hp locs ls hP hD hS hl
  · rw [if_neg hk] at hP hD
    have M := c_X6_donate (l := l) (D := D) (cI := cI) (cC := cC) (cM := cM) (cB := cB) (cJ := cJ) (q := q) (hi := hi) (tx := T) (pa := pa) (ke := ke) (mr := mr) (hs := hs) (wr := xw0 cI cC cM cB ad z t T (nI nb) r x h ah (nI nx) (nI kp) zh [outC cJ o fo]) hn hz hkp hm0 hB p1 p2
    simp only [xwf, xv, if_neg hk] at M
    refine lv_aload_n hx hb dL_law_367 rfl (lv_at hl 3 rfl) ?_
    refine lv_aload_n hx hb dL_law_368 rfl (lv_at hl 1 rfl) ?_
    refine lv_iload hx hb dL_law_369 (lv_at hl 5 rfl) ?_
    refine lv_iconst (v := 1) hx hb dL_law_371 (by decide) ?_
    refine lv_iadd hx hb dL_law_372 ?_
    refine z_sld hx hb hX hbl hbA hS s1 dL_law_373 ?_
    refine lv_aload_n hx hb dL_law_374 rfl (lv_at hl 1 rfl) ?_
    refine lv_iload hx hb dL_law_375 (lv_at hl 5 rfl) ?_
    refine lv_iconst (v := 2) hx hb dL_law_377 (by decide) ?_
    refine lv_iadd hx hb dL_law_378 ?_
    refine z_sld hx hb hX hbl hbA hS s2 dL_law_379 ?_
    refine z_callV1 (n := 2) (As := [.int p1, .int p2]) (rest := []) S (zM_perm lw_perm lw_perm.symm M) qm_L_108 ⟨⟨qi_X6_donate, qs_X6_donate, qn_X6, qc_X6_donate⟩, rfl, by decide, by decide, by decide +kernel⟩ ⟨Nat.le_of_ble_eq_true rfl, Nat.le_of_ble_eq_true rfl⟩ rfl rfl hN hK hP hD hS hA 140 rfl rfl rfl hl.1 rfl (Nat.le_of_ble_eq_true rfl) dL_law_380 hcs (fun Hp locs hP hD hS => ?_)
    have hKt : (upd mr 2 (kDonate z n p1 p2)) 2 = (kDonate z n p1 p2) := upd_eq rfl
    have hKv : (kDonate z n p1 p2) = 0 → fo 0 = (0 : Int32).toInt64 := fun h9 => absurd h9 hk
    refine lw_tail (o := o) (q := q) (fo := fo) S (zM_perm lw_perm lw_perm.symm (c_X6_thrown (q := q) (mr := (upd mr 2 (kDonate z n p1 p2))))) ⟨Nat.le_of_ble_eq_true rfl, Nat.le_of_ble_eq_true rfl⟩ hN hK hP hD hS hA rfl rfl hcs hl hKt hKv dL_law_383 dL_law_385 dL_law_386 dL_law_389 dL_law_391 dL_law_396 dL_law_398 dL_law_401 dL_law_402 dL_law_403 dL_law_404 dL_law_406 dL_law_407 dL_law_408 dL_law_413 (by decide) (fun Hp locs ls hP hD hS hl => ?_)
    exact kk n z zh nx kp hi H T nb r pa ke (upd mr 2 (kDonate z n p1 p2)) hs fo (lwI_up hI (by omega) (upd_ne (by decide)) (upd_ne (by decide))) Hp locs ls hP hD hS hl
set_option maxHeartbeats 4000000 in
set_option maxRecDepth 100000 in
theorem k_pass {p : Program} {l : Launch} {e : Env} {s : State} {m : MethodId} {below : List Frame} {meth : Method} {c : Code} {b L : Nat} {xs : Nat → Int32} {D : va_G} {cI cC cM cB cJ : ClassId} {ad t : Nat → Nat} {x : Nat} {h : Nat → Nat} {ah : Nat → Nat → Nat} {q : Nat → Nat} {o : Nat} {x4 : Int32} {C cells slots : Nat} {n : Nat} {z : Nat → Int32} {zh : Nat → Nat → Int32} {nx kp : Nat} {hi : Nat → Int32} {H : Nat → Nat → Int32} {T : Nat → Int32} {nb : Nat} {r pa ke mr : Nat → Int32} {hs : Int64} {fo : Nat → Int64} {Hp : Heap} {locs : List Loc} {ls : Array Slot} {p1 p2 p3 p4 : Int32}  (E : lwEnv p s m meth c b L xs D cI cC cM cB cJ) (hfl : l.stackTraces = false) (hC : C + 10 ≤ 6000) (hC1 : 1 ≤ C) (hI : lwI C n z zh nx kp hi H T nb mr) (hcs : cells + 1 ≤ 601024 ∧ slots + 6 ≤ 7293034) (hP : va_P D vwCl (xw0 cI cC cM cB ad z t T (nI nb) r x h ah (nI nx) (nI kp) zh (outC cJ o fo :: moW cI q z hi T pa ke mr hs [])) Hp) (hD : va_D (fun q : Nat => s.heap.size ≤ q) (xw0 cI cC cM cB ad z t T (nI nb) r x h ah (nI nx) (nI kp) zh (outC cJ o fo :: moW cI q z hi T pa ke mr hs []))) (hS : va_S (fun q : Nat => s.heap.size ≤ q) s.heap Hp locs) (hl : lv_has ls 9 (lwL b x o q x4)) (sc : lwScr xs L x4 p1 p2 p3 p4) (kk : lwK p l e s m below meth c b D cI cC cM cB cJ ad t x h ah q o x4 (C + 10) (cells + 1) (slots + 6)) : W p l e room_1 s m #[Value.ref b] below meth c Hp locs cells slots (lw_Z below #[Value.ref b] s) (F0 m 416 ls []) := by
  obtain ⟨⟨hx, hb, hr, hml, hown, hts, hX, hbl, hlocks, hgv⟩, hCn, hJ, hN, hK⟩ := id E
  have S : CallFix p m c code 9 s #[Value.ref b] TT RL := ⟨hx, hb, hml, hown, fun w hw => hts w (List.mem_filter.mp hw).1⟩
  have hA : ∀ q : Nat, s.heap.size ≤ q → (fun q : Nat => s.heap.size ≤ q) q := fun _ h => h
  have hbA : ¬ (fun q : Nat => s.heap.size ≤ q) b := Nat.not_le.mpr hbl
  obtain ⟨hR, hH, hnb, hT, hm0, hm1⟩ := id hI
  obtain ⟨hn, hz, hB, -⟩ := id hR
  obtain ⟨hnx, hkp, hBh, -⟩ := id hH
  obtain ⟨s1, s2, s3, s4⟩ := sc
  refine lv_aload_n hx hb dL_law_416 rfl (lv_at hl 1 rfl) ?_
  refine lv_aload_n hx hb dL_law_417 rfl (lv_at hl 0 rfl) ?_
  refine lv_iload hx hb dL_law_418 (lv_at hl 4 rfl) ?_
  refine lv_iconst (v := 1) hx hb dL_law_420 (by decide) ?_
  refine lv_iadd hx hb dL_law_421 ?_
  refine z_sld hx hb hX hbl hbA hS s1 dL_law_422 ?_
  refine lv_aload_n hx hb dL_law_423 rfl (lv_at hl 3 rfl) ?_
  refine z_callH (n := 3) (As := [.ref x, .int p1, .ref o]) (rest := []) S (c_L_pass (fo := fo) (wr := moW cI q z hi T pa ke mr hs []) hfl hn hz hnx hkp hB p1) qm_L_109 ⟨qt_L_pass, qn_L, qw_L_pass⟩ ⟨by decide, by decide, by decide +kernel⟩ ⟨Nat.le_of_ble_eq_true rfl, Nat.le_of_ble_eq_true rfl⟩ rfl rfl hCn hJ hN hK hP hD hS hA rfl hl.1 rfl (Nat.le_of_ble_eq_true rfl) dL_law_424 hcs (fun Hp locs hP hD hS => ?_)
  refine lv_istore (lv' := (5, .int (kPass z p1)) :: lwL b x o q x4) hx hb dL_law_427 hl (by decide) rfl (fun ls hl => ?_)
  by_cases hk : (kPass z p1) = 0
  · rw [if_pos hk] at hP hD
    have hZ : rOK (C + 10) n (wkI z n (cl p1)) := rOK_up (by omega) (ok_wkI (by omega) hR (cl p1))
    have M := c_X6_pass (l := l) (D := D) (cI := cI) (cC := cC) (cM := cM) (cB := cB) (cJ := cJ) (q := q) (hi := hi) (tx := T) (pa := pa) (ke := ke) (mr := mr) (hs := hs) (wr := xw0 cI cC cM cB ad (wkI z n (cl p1)) t T (nI nb) r x h ah (nI ((nx + 1) % 6)) (nI (min (kp + 1) 6)) (zup zh nx z) [outC cJ o (vp_updL fo 0 ((wkS z n (cl p1))).toInt64)]) hn hz hkp hm0 hB p1
    simp only [xwf, xv, if_pos hk] at M
    refine lv_aload_n hx hb dL_law_429 rfl (lv_at hl 3 rfl) ?_
    refine lv_aload_n hx hb dL_law_430 rfl (lv_at hl 1 rfl) ?_
    refine lv_iload hx hb dL_law_431 (lv_at hl 5 rfl) ?_
    refine lv_iconst (v := 1) hx hb dL_law_433 (by decide) ?_
    refine lv_iadd hx hb dL_law_434 ?_
    refine z_sld hx hb hX hbl hbA hS s1 dL_law_435 ?_
    refine z_callV1 (n := 1) (As := [.int p1]) (rest := []) S (zM_perm lw_perm lw_perm.symm M) qm_L_111 ⟨⟨qi_X6_pass, qs_X6_pass, qn_X6, qc_X6_pass⟩, rfl, by decide, by decide, by decide +kernel⟩ ⟨Nat.le_of_ble_eq_true rfl, Nat.le_of_ble_eq_true rfl⟩ rfl rfl hN hK hP hD hS hA 140 rfl rfl rfl hl.1 rfl (Nat.le_of_ble_eq_true rfl) dL_law_436 hcs (fun Hp locs hP hD hS => ?_)
    have hKt : (upd (upd mr 2 0) 0 (nI (min (kp + 1) 6))) 2 = (kPass z p1) := by rw [hk]; exact (upd_ne (by decide)).trans (upd_eq rfl)
    have hKv : (kPass z p1) = 0 → (vp_updL fo 0 ((wkS z n (cl p1))).toInt64) 0 = ((wkS z n (cl p1))).toInt64 := fun _ => pk_uLs.trans (congrArg Int32.toInt64 (show (wkS z n (cl p1)) = (wkS z n (cl p1)) from rfl))
    refine lw_tail (o := o) (q := q) (fo := (vp_updL fo 0 ((wkS z n (cl p1))).toInt64)) S (zM_perm lw_perm lw_perm.symm (c_X6_thrown (q := q) (mr := (upd (upd mr 2 0) 0 (nI (min (kp + 1) 6)))))) ⟨Nat.le_of_ble_eq_true rfl, Nat.le_of_ble_eq_true rfl⟩ hN hK hP hD hS hA rfl rfl hcs hl hKt hKv dL_law_439 dL_law_441 dL_law_442 dL_law_445 dL_law_447 dL_law_452 dL_law_454 dL_law_457 dL_law_458 dL_law_459 dL_law_460 dL_law_462 dL_law_463 dL_law_464 dL_law_469 (by decide) (fun Hp locs ls hP hD hS hl => ?_)
    have hcC : eqC (wkI z n (cl p1)) (wkI z n (cl p1)) := fun _ _ _ _ => rfl
    have hmM : eqM (wkI z n (cl p1)) (wkI z n (cl p1)) := fun _ _ => rfl
    rw [lw_eq hcC hmM] at hP hD
    exact kk n (wkI z n (cl p1)) (zup zh nx z) ((nx + 1) % 6) (min (kp + 1) 6) (svH hi z kp) (svR H z kp) T nb r pa ke (upd (upd mr 2 0) 0 (nI (min (kp + 1) 6))) hs (vp_updL fo 0 ((wkS z n (cl p1))).toInt64) (lwI_save hI (by omega) hZ (upd_eq rfl) ((upd_ne (by decide)).trans (upd_ne (by decide)))) Hp locs ls hP hD hS hl
  · rw [if_neg hk] at hP hD
    have M := c_X6_pass (l := l) (D := D) (cI := cI) (cC := cC) (cM := cM) (cB := cB) (cJ := cJ) (q := q) (hi := hi) (tx := T) (pa := pa) (ke := ke) (mr := mr) (hs := hs) (wr := xw0 cI cC cM cB ad z t T (nI nb) r x h ah (nI nx) (nI kp) zh [outC cJ o fo]) hn hz hkp hm0 hB p1
    simp only [xwf, xv, if_neg hk] at M
    refine lv_aload_n hx hb dL_law_429 rfl (lv_at hl 3 rfl) ?_
    refine lv_aload_n hx hb dL_law_430 rfl (lv_at hl 1 rfl) ?_
    refine lv_iload hx hb dL_law_431 (lv_at hl 5 rfl) ?_
    refine lv_iconst (v := 1) hx hb dL_law_433 (by decide) ?_
    refine lv_iadd hx hb dL_law_434 ?_
    refine z_sld hx hb hX hbl hbA hS s1 dL_law_435 ?_
    refine z_callV1 (n := 1) (As := [.int p1]) (rest := []) S (zM_perm lw_perm lw_perm.symm M) qm_L_111 ⟨⟨qi_X6_pass, qs_X6_pass, qn_X6, qc_X6_pass⟩, rfl, by decide, by decide, by decide +kernel⟩ ⟨Nat.le_of_ble_eq_true rfl, Nat.le_of_ble_eq_true rfl⟩ rfl rfl hN hK hP hD hS hA 140 rfl rfl rfl hl.1 rfl (Nat.le_of_ble_eq_true rfl) dL_law_436 hcs (fun Hp locs hP hD hS => ?_)
    have hKt : (upd mr 2 (kPass z p1)) 2 = (kPass z p1) := upd_eq rfl
    have hKv : (kPass z p1) = 0 → fo 0 = (0 : Int32).toInt64 := fun h9 => absurd h9 hk
    refine lw_tail (o := o) (q := q) (fo := fo) S (zM_perm lw_perm lw_perm.symm (c_X6_thrown (q := q) (mr := (upd mr 2 (kPass z p1))))) ⟨Nat.le_of_ble_eq_true rfl, Nat.le_of_ble_eq_true rfl⟩ hN hK hP hD hS hA rfl rfl hcs hl hKt hKv dL_law_439 dL_law_441 dL_law_442 dL_law_445 dL_law_447 dL_law_452 dL_law_454 dL_law_457 dL_law_458 dL_law_459 dL_law_460 dL_law_462 dL_law_463 dL_law_464 dL_law_469 (by decide) (fun Hp locs ls hP hD hS hl => ?_)
    exact kk n z zh nx kp hi H T nb r pa ke (upd mr 2 (kPass z p1)) hs fo (lwI_up hI (by omega) (upd_ne (by decide)) (upd_ne (by decide))) Hp locs ls hP hD hS hl
set_option maxHeartbeats 4000000 in
set_option maxRecDepth 100000 in
theorem k_set {p : Program} {l : Launch} {e : Env} {s : State} {m : MethodId} {below : List Frame} {meth : Method} {c : Code} {b L : Nat} {xs : Nat → Int32} {D : va_G} {cI cC cM cB cJ : ClassId} {ad t : Nat → Nat} {x : Nat} {h : Nat → Nat} {ah : Nat → Nat → Nat} {q : Nat → Nat} {o : Nat} {x4 : Int32} {C cells slots : Nat} {n : Nat} {z : Nat → Int32} {zh : Nat → Nat → Int32} {nx kp : Nat} {hi : Nat → Int32} {H : Nat → Nat → Int32} {T : Nat → Int32} {nb : Nat} {r pa ke mr : Nat → Int32} {hs : Int64} {fo : Nat → Int64} {Hp : Heap} {locs : List Loc} {ls : Array Slot} {p1 p2 p3 p4 : Int32}  (E : lwEnv p s m meth c b L xs D cI cC cM cB cJ) (hfl : l.stackTraces = false) (hC : C + 10 ≤ 6000) (hC1 : 1 ≤ C) (hI : lwI C n z zh nx kp hi H T nb mr) (hcs : cells + 1 ≤ 601024 ∧ slots + 6 ≤ 7293034) (hP : va_P D vwCl (xw0 cI cC cM cB ad z t T (nI nb) r x h ah (nI nx) (nI kp) zh (outC cJ o fo :: moW cI q z hi T pa ke mr hs [])) Hp) (hD : va_D (fun q : Nat => s.heap.size ≤ q) (xw0 cI cC cM cB ad z t T (nI nb) r x h ah (nI nx) (nI kp) zh (outC cJ o fo :: moW cI q z hi T pa ke mr hs []))) (hS : va_S (fun q : Nat => s.heap.size ≤ q) s.heap Hp locs) (hl : lv_has ls 9 (lwL b x o q x4)) (sc : lwScr xs L x4 p1 p2 p3 p4) (kk : lwK p l e s m below meth c b D cI cC cM cB cJ ad t x h ah q o x4 (C + 10) (cells + 1) (slots + 6)) : W p l e room_1 s m #[Value.ref b] below meth c Hp locs cells slots (lw_Z below #[Value.ref b] s) (F0 m 472 ls []) := by
  obtain ⟨⟨hx, hb, hr, hml, hown, hts, hX, hbl, hlocks, hgv⟩, hCn, hJ, hN, hK⟩ := id E
  have S : CallFix p m c code 9 s #[Value.ref b] TT RL := ⟨hx, hb, hml, hown, fun w hw => hts w (List.mem_filter.mp hw).1⟩
  have hA : ∀ q : Nat, s.heap.size ≤ q → (fun q : Nat => s.heap.size ≤ q) q := fun _ h => h
  have hbA : ¬ (fun q : Nat => s.heap.size ≤ q) b := Nat.not_le.mpr hbl
  obtain ⟨hR, hH, hnb, hT, hm0, hm1⟩ := id hI
  obtain ⟨hn, hz, hB, -⟩ := id hR
  obtain ⟨hnx, hkp, hBh, -⟩ := id hH
  obtain ⟨s1, s2, s3, s4⟩ := sc
  refine lv_aload_n hx hb dL_law_472 rfl (lv_at hl 1 rfl) ?_
  refine lv_aload_n hx hb dL_law_473 rfl (lv_at hl 0 rfl) ?_
  refine lv_iload hx hb dL_law_474 (lv_at hl 4 rfl) ?_
  refine lv_iconst (v := 1) hx hb dL_law_476 (by decide) ?_
  refine lv_iadd hx hb dL_law_477 ?_
  refine z_sld hx hb hX hbl hbA hS s1 dL_law_478 ?_
  refine lv_aload_n hx hb dL_law_479 rfl (lv_at hl 0 rfl) ?_
  refine lv_iload hx hb dL_law_480 (lv_at hl 4 rfl) ?_
  refine lv_iconst (v := 2) hx hb dL_law_482 (by decide) ?_
  refine lv_iadd hx hb dL_law_483 ?_
  refine z_sld hx hb hX hbl hbA hS s2 dL_law_484 ?_
  refine lv_aload_n hx hb dL_law_485 rfl (lv_at hl 3 rfl) ?_
  refine z_callH (n := 4) (As := [.ref x, .int p1, .int p2, .ref o]) (rest := []) S (c_L_set (fo := fo) (wr := moW cI q z hi T pa ke mr hs []) hfl hn hz hnx hkp hB p1 p2) qm_L_112 ⟨qt_L_set, qn_L, qw_L_set⟩ ⟨by decide, by decide, by decide +kernel⟩ ⟨Nat.le_of_ble_eq_true rfl, Nat.le_of_ble_eq_true rfl⟩ rfl rfl hCn hJ hN hK hP hD hS hA rfl hl.1 rfl (Nat.le_of_ble_eq_true rfl) dL_law_486 hcs (fun Hp locs hP hD hS => ?_)
  refine lv_istore (lv' := (5, .int (kSet p1 p2)) :: lwL b x o q x4) hx hb dL_law_489 hl (by decide) rfl (fun ls hl => ?_)
  by_cases hk : (kSet p1 p2) = 0
  · rw [if_pos hk] at hP hD
    obtain ⟨a1, a2⟩ := k0_set hk
    obtain ⟨st1, st2⟩ := sP_j a1
    have hZ : rOK (C + 10) n (upd z (cl p1) p2) := rOK_up (by omega) (ok_set hR st1 a2)
    have M := c_X6_set (l := l) (D := D) (cI := cI) (cC := cC) (cM := cM) (cB := cB) (cJ := cJ) (q := q) (hi := hi) (tx := T) (pa := pa) (ke := ke) (mr := mr) (hs := hs) (wr := xw0 cI cC cM cB ad (upd z (cl p1) p2) t T (nI nb) r x h ah (nI ((nx + 1) % 6)) (nI (min (kp + 1) 6)) (zup zh nx z) [outC cJ o (vp_updL fo 0 ((z (cl p1))).toInt64)]) hn hz hkp hm0 hB p1 p2
    simp only [xwf, xv, if_pos hk] at M
    refine lv_aload_n hx hb dL_law_491 rfl (lv_at hl 3 rfl) ?_
    refine lv_aload_n hx hb dL_law_492 rfl (lv_at hl 1 rfl) ?_
    refine lv_iload hx hb dL_law_493 (lv_at hl 5 rfl) ?_
    refine lv_iconst (v := 1) hx hb dL_law_495 (by decide) ?_
    refine lv_iadd hx hb dL_law_496 ?_
    refine z_sld hx hb hX hbl hbA hS s1 dL_law_497 ?_
    refine lv_aload_n hx hb dL_law_498 rfl (lv_at hl 1 rfl) ?_
    refine lv_iload hx hb dL_law_499 (lv_at hl 5 rfl) ?_
    refine lv_iconst (v := 2) hx hb dL_law_501 (by decide) ?_
    refine lv_iadd hx hb dL_law_502 ?_
    refine z_sld hx hb hX hbl hbA hS s2 dL_law_503 ?_
    refine z_callV1 (n := 2) (As := [.int p1, .int p2]) (rest := []) S (zM_perm lw_perm lw_perm.symm M) qm_L_114 ⟨⟨qi_X6_set, qs_X6_set, qn_X6, qc_X6_set⟩, rfl, by decide, by decide, by decide +kernel⟩ ⟨Nat.le_of_ble_eq_true rfl, Nat.le_of_ble_eq_true rfl⟩ rfl rfl hN hK hP hD hS hA 140 rfl rfl rfl hl.1 rfl (Nat.le_of_ble_eq_true rfl) dL_law_504 hcs (fun Hp locs hP hD hS => ?_)
    have hKt : (upd (upd mr 2 0) 0 (nI (min (kp + 1) 6))) 2 = (kSet p1 p2) := by rw [hk]; exact (upd_ne (by decide)).trans (upd_eq rfl)
    have hKv : (kSet p1 p2) = 0 → (vp_updL fo 0 ((z (cl p1))).toInt64) 0 = ((z (cl p1))).toInt64 := fun _ => pk_uLs.trans (congrArg Int32.toInt64 (show (z (cl p1)) = (z (cl p1)) from rfl))
    refine lw_tail (o := o) (q := q) (fo := (vp_updL fo 0 ((z (cl p1))).toInt64)) S (zM_perm lw_perm lw_perm.symm (c_X6_thrown (q := q) (mr := (upd (upd mr 2 0) 0 (nI (min (kp + 1) 6)))))) ⟨Nat.le_of_ble_eq_true rfl, Nat.le_of_ble_eq_true rfl⟩ hN hK hP hD hS hA rfl rfl hcs hl hKt hKv dL_law_507 dL_law_509 dL_law_510 dL_law_513 dL_law_515 dL_law_520 dL_law_522 dL_law_525 dL_law_526 dL_law_527 dL_law_528 dL_law_530 dL_law_531 dL_law_532 dL_law_537 (by decide) (fun Hp locs ls hP hD hS hl => ?_)
    have hcC : eqC (upd z (cl p1) p2) (upd z (cl p1) p2) := fun _ _ _ _ => rfl
    have hmM : eqM (upd z (cl p1) p2) (upd z (cl p1) p2) := fun _ _ => rfl
    rw [lw_eq hcC hmM] at hP hD
    exact kk n (upd z (cl p1) p2) (zup zh nx z) ((nx + 1) % 6) (min (kp + 1) 6) (svH hi z kp) (svR H z kp) T nb r pa ke (upd (upd mr 2 0) 0 (nI (min (kp + 1) 6))) hs (vp_updL fo 0 ((z (cl p1))).toInt64) (lwI_save hI (by omega) hZ (upd_eq rfl) ((upd_ne (by decide)).trans (upd_ne (by decide)))) Hp locs ls hP hD hS hl
  · rw [if_neg hk] at hP hD
    have M := c_X6_set (l := l) (D := D) (cI := cI) (cC := cC) (cM := cM) (cB := cB) (cJ := cJ) (q := q) (hi := hi) (tx := T) (pa := pa) (ke := ke) (mr := mr) (hs := hs) (wr := xw0 cI cC cM cB ad z t T (nI nb) r x h ah (nI nx) (nI kp) zh [outC cJ o fo]) hn hz hkp hm0 hB p1 p2
    simp only [xwf, xv, if_neg hk] at M
    refine lv_aload_n hx hb dL_law_491 rfl (lv_at hl 3 rfl) ?_
    refine lv_aload_n hx hb dL_law_492 rfl (lv_at hl 1 rfl) ?_
    refine lv_iload hx hb dL_law_493 (lv_at hl 5 rfl) ?_
    refine lv_iconst (v := 1) hx hb dL_law_495 (by decide) ?_
    refine lv_iadd hx hb dL_law_496 ?_
    refine z_sld hx hb hX hbl hbA hS s1 dL_law_497 ?_
    refine lv_aload_n hx hb dL_law_498 rfl (lv_at hl 1 rfl) ?_
    refine lv_iload hx hb dL_law_499 (lv_at hl 5 rfl) ?_
    refine lv_iconst (v := 2) hx hb dL_law_501 (by decide) ?_
    refine lv_iadd hx hb dL_law_502 ?_
    refine z_sld hx hb hX hbl hbA hS s2 dL_law_503 ?_
    refine z_callV1 (n := 2) (As := [.int p1, .int p2]) (rest := []) S (zM_perm lw_perm lw_perm.symm M) qm_L_114 ⟨⟨qi_X6_set, qs_X6_set, qn_X6, qc_X6_set⟩, rfl, by decide, by decide, by decide +kernel⟩ ⟨Nat.le_of_ble_eq_true rfl, Nat.le_of_ble_eq_true rfl⟩ rfl rfl hN hK hP hD hS hA 140 rfl rfl rfl hl.1 rfl (Nat.le_of_ble_eq_true rfl) dL_law_504 hcs (fun Hp locs hP hD hS => ?_)
    have hKt : (upd mr 2 (kSet p1 p2)) 2 = (kSet p1 p2) := upd_eq rfl
    have hKv : (kSet p1 p2) = 0 → fo 0 = (0 : Int32).toInt64 := fun h9 => absurd h9 hk
    refine lw_tail (o := o) (q := q) (fo := fo) S (zM_perm lw_perm lw_perm.symm (c_X6_thrown (q := q) (mr := (upd mr 2 (kSet p1 p2))))) ⟨Nat.le_of_ble_eq_true rfl, Nat.le_of_ble_eq_true rfl⟩ hN hK hP hD hS hA rfl rfl hcs hl hKt hKv dL_law_507 dL_law_509 dL_law_510 dL_law_513 dL_law_515 dL_law_520 dL_law_522 dL_law_525 dL_law_526 dL_law_527 dL_law_528 dL_law_530 dL_law_531 dL_law_532 dL_law_537 (by decide) (fun Hp locs ls hP hD hS hl => ?_)
    exact kk n z zh nx kp hi H T nb r pa ke (upd mr 2 (kSet p1 p2)) hs fo (lwI_up hI (by omega) (upd_ne (by decide)) (upd_ne (by decide))) Hp locs ls hP hD hS hl
set_option maxHeartbeats 4000000 in
set_option maxRecDepth 100000 in
theorem k_move {p : Program} {l : Launch} {e : Env} {s : State} {m : MethodId} {below : List Frame} {meth : Method} {c : Code} {b L : Nat} {xs : Nat → Int32} {D : va_G} {cI cC cM cB cJ : ClassId} {ad t : Nat → Nat} {x : Nat} {h : Nat → Nat} {ah : Nat → Nat → Nat} {q : Nat → Nat} {o : Nat} {x4 : Int32} {C cells slots : Nat} {n : Nat} {z : Nat → Int32} {zh : Nat → Nat → Int32} {nx kp : Nat} {hi : Nat → Int32} {H : Nat → Nat → Int32} {T : Nat → Int32} {nb : Nat} {r pa ke mr : Nat → Int32} {hs : Int64} {fo : Nat → Int64} {Hp : Heap} {locs : List Loc} {ls : Array Slot} {p1 p2 p3 p4 : Int32}  (E : lwEnv p s m meth c b L xs D cI cC cM cB cJ) (hfl : l.stackTraces = false) (hC : C + 10 ≤ 6000) (hC1 : 1 ≤ C) (hI : lwI C n z zh nx kp hi H T nb mr) (hcs : cells + 1 ≤ 601024 ∧ slots + 6 ≤ 7293034) (hP : va_P D vwCl (xw0 cI cC cM cB ad z t T (nI nb) r x h ah (nI nx) (nI kp) zh (outC cJ o fo :: moW cI q z hi T pa ke mr hs [])) Hp) (hD : va_D (fun q : Nat => s.heap.size ≤ q) (xw0 cI cC cM cB ad z t T (nI nb) r x h ah (nI nx) (nI kp) zh (outC cJ o fo :: moW cI q z hi T pa ke mr hs []))) (hS : va_S (fun q : Nat => s.heap.size ≤ q) s.heap Hp locs) (hl : lv_has ls 9 (lwL b x o q x4)) (sc : lwScr xs L x4 p1 p2 p3 p4) (kk : lwK p l e s m below meth c b D cI cC cM cB cJ ad t x h ah q o x4 (C + 10) (cells + 1) (slots + 6)) : W p l e room_1 s m #[Value.ref b] below meth c Hp locs cells slots (lw_Z below #[Value.ref b] s) (F0 m 540 ls []) := by
  obtain ⟨⟨hx, hb, hr, hml, hown, hts, hX, hbl, hlocks, hgv⟩, hCn, hJ, hN, hK⟩ := id E
  have S : CallFix p m c code 9 s #[Value.ref b] TT RL := ⟨hx, hb, hml, hown, fun w hw => hts w (List.mem_filter.mp hw).1⟩
  have hA : ∀ q : Nat, s.heap.size ≤ q → (fun q : Nat => s.heap.size ≤ q) q := fun _ h => h
  have hbA : ¬ (fun q : Nat => s.heap.size ≤ q) b := Nat.not_le.mpr hbl
  obtain ⟨hR, hH, hnb, hT, hm0, hm1⟩ := id hI
  obtain ⟨hn, hz, hB, -⟩ := id hR
  obtain ⟨hnx, hkp, hBh, -⟩ := id hH
  obtain ⟨s1, s2, s3, s4⟩ := sc
  refine lv_aload_n hx hb dL_law_540 rfl (lv_at hl 1 rfl) ?_
  refine lv_aload_n hx hb dL_law_541 rfl (lv_at hl 0 rfl) ?_
  refine lv_iload hx hb dL_law_542 (lv_at hl 4 rfl) ?_
  refine lv_iconst (v := 1) hx hb dL_law_544 (by decide) ?_
  refine lv_iadd hx hb dL_law_545 ?_
  refine z_sld hx hb hX hbl hbA hS s1 dL_law_546 ?_
  refine lv_aload_n hx hb dL_law_547 rfl (lv_at hl 0 rfl) ?_
  refine lv_iload hx hb dL_law_548 (lv_at hl 4 rfl) ?_
  refine lv_iconst (v := 2) hx hb dL_law_550 (by decide) ?_
  refine lv_iadd hx hb dL_law_551 ?_
  refine z_sld hx hb hX hbl hbA hS s2 dL_law_552 ?_
  refine lv_aload_n hx hb dL_law_553 rfl (lv_at hl 3 rfl) ?_
  refine z_callH (n := 4) (As := [.ref x, .int p1, .int p2, .ref o]) (rest := []) S (c_L_move (fo := fo) (wr := moW cI q z hi T pa ke mr hs []) hfl hn hz hnx hkp hB p1 p2) qm_L_115 ⟨qt_L_move, qn_L, qw_L_move⟩ ⟨by decide, by decide, by decide +kernel⟩ ⟨Nat.le_of_ble_eq_true rfl, Nat.le_of_ble_eq_true rfl⟩ rfl rfl hCn hJ hN hK hP hD hS hA rfl hl.1 rfl (Nat.le_of_ble_eq_true rfl) dL_law_554 hcs (fun Hp locs hP hD hS => ?_)
  refine lv_istore (lv' := (5, .int (kMove z n p1 p2)) :: lwL b x o q x4) hx hb dL_law_557 hl (by decide) rfl (fun ls hl => ?_)
  by_cases hk : (kMove z n p1 p2) = 0
  · rw [if_pos hk] at hP hD
    obtain ⟨a1, a2, a3⟩ := k0_move hk
    obtain ⟨hj, ej⟩ := mP_j hn a1
    obtain ⟨hZ0, td⟩ := ok_move hR hj a2 a3
    have ma := move_ans (n := n) (mn := p2) td
    rw [← ej] at hZ0 ma
    have hZ : rOK (C + 10) n (upd (upd z 10 p1) 11 p2) := rOK_up (by omega) hZ0
    have M := c_X6_move (l := l) (D := D) (cI := cI) (cC := cC) (cM := cM) (cB := cB) (cJ := cJ) (q := q) (hi := hi) (tx := T) (pa := pa) (ke := ke) (mr := mr) (hs := hs) (wr := xw0 cI cC cM cB ad (upd (upd z 10 p1) 11 p2) t T (nI nb) r x h ah (nI ((nx + 1) % 6)) (nI (min (kp + 1) 6)) (zup zh nx z) [outC cJ o (vp_updL fo 0 ((cntT (upd (upd z 10 p1) 11 p2) n - 1)).toInt64)]) hn hz hkp hm0 hB p1 p2
    simp only [xwf, xv, if_pos hk] at M
    refine lv_aload_n hx hb dL_law_559 rfl (lv_at hl 3 rfl) ?_
    refine lv_aload_n hx hb dL_law_560 rfl (lv_at hl 1 rfl) ?_
    refine lv_iload hx hb dL_law_561 (lv_at hl 5 rfl) ?_
    refine lv_iconst (v := 1) hx hb dL_law_563 (by decide) ?_
    refine lv_iadd hx hb dL_law_564 ?_
    refine z_sld hx hb hX hbl hbA hS s1 dL_law_565 ?_
    refine lv_aload_n hx hb dL_law_566 rfl (lv_at hl 1 rfl) ?_
    refine lv_iload hx hb dL_law_567 (lv_at hl 5 rfl) ?_
    refine lv_iconst (v := 2) hx hb dL_law_569 (by decide) ?_
    refine lv_iadd hx hb dL_law_570 ?_
    refine z_sld hx hb hX hbl hbA hS s2 dL_law_571 ?_
    refine z_callV1 (n := 2) (As := [.int p1, .int p2]) (rest := []) S (zM_perm lw_perm lw_perm.symm M) qm_L_117 ⟨⟨qi_X6_move, qs_X6_move, qn_X6, qc_X6_move⟩, rfl, by decide, by decide, by decide +kernel⟩ ⟨Nat.le_of_ble_eq_true rfl, Nat.le_of_ble_eq_true rfl⟩ rfl rfl hN hK hP hD hS hA 140 rfl rfl rfl hl.1 rfl (Nat.le_of_ble_eq_true rfl) dL_law_572 hcs (fun Hp locs hP hD hS => ?_)
    have hKt : (upd (upd mr 2 0) 0 (nI (min (kp + 1) 6))) 2 = (kMove z n p1 p2) := by rw [hk]; exact (upd_ne (by decide)).trans (upd_eq rfl)
    have hKv : (kMove z n p1 p2) = 0 → (vp_updL fo 0 ((cntT (upd (upd z 10 p1) 11 p2) n - 1)).toInt64) 0 = ((cntT (upd (upd z 10 p1) 11 p2) n - upd (upd z 10 p1) 11 p2 (14 + 16 * cl p1))).toInt64 := fun _ => pk_uLs.trans (congrArg Int32.toInt64 (show (cntT (upd (upd z 10 p1) 11 p2) n - 1) = (cntT (upd (upd z 10 p1) 11 p2) n - upd (upd z 10 p1) 11 p2 (14 + 16 * cl p1)) from ma.symm))
    refine lw_tail (o := o) (q := q) (fo := (vp_updL fo 0 ((cntT (upd (upd z 10 p1) 11 p2) n - 1)).toInt64)) S (zM_perm lw_perm lw_perm.symm (c_X6_thrown (q := q) (mr := (upd (upd mr 2 0) 0 (nI (min (kp + 1) 6)))))) ⟨Nat.le_of_ble_eq_true rfl, Nat.le_of_ble_eq_true rfl⟩ hN hK hP hD hS hA rfl rfl hcs hl hKt hKv dL_law_575 dL_law_577 dL_law_578 dL_law_581 dL_law_583 dL_law_588 dL_law_590 dL_law_593 dL_law_594 dL_law_595 dL_law_596 dL_law_598 dL_law_599 dL_law_600 dL_law_605 (by decide) (fun Hp locs ls hP hD hS hl => ?_)
    have hcC : eqC (upd (upd z 10 p1) 11 p2) (upd (upd z 10 p1) 11 p2) := fun _ _ _ _ => rfl
    have hmM : eqM (upd (upd z 10 p1) 11 p2) (upd (upd z 10 p1) 11 p2) := fun _ _ => rfl
    rw [lw_eq hcC hmM] at hP hD
    exact kk n (upd (upd z 10 p1) 11 p2) (zup zh nx z) ((nx + 1) % 6) (min (kp + 1) 6) (svH hi z kp) (svR H z kp) T nb r pa ke (upd (upd mr 2 0) 0 (nI (min (kp + 1) 6))) hs (vp_updL fo 0 ((cntT (upd (upd z 10 p1) 11 p2) n - 1)).toInt64) (lwI_save hI (by omega) hZ (upd_eq rfl) ((upd_ne (by decide)).trans (upd_ne (by decide)))) Hp locs ls hP hD hS hl
  · rw [if_neg hk] at hP hD
    have M := c_X6_move (l := l) (D := D) (cI := cI) (cC := cC) (cM := cM) (cB := cB) (cJ := cJ) (q := q) (hi := hi) (tx := T) (pa := pa) (ke := ke) (mr := mr) (hs := hs) (wr := xw0 cI cC cM cB ad z t T (nI nb) r x h ah (nI nx) (nI kp) zh [outC cJ o fo]) hn hz hkp hm0 hB p1 p2
    simp only [xwf, xv, if_neg hk] at M
    refine lv_aload_n hx hb dL_law_559 rfl (lv_at hl 3 rfl) ?_
    refine lv_aload_n hx hb dL_law_560 rfl (lv_at hl 1 rfl) ?_
    refine lv_iload hx hb dL_law_561 (lv_at hl 5 rfl) ?_
    refine lv_iconst (v := 1) hx hb dL_law_563 (by decide) ?_
    refine lv_iadd hx hb dL_law_564 ?_
    refine z_sld hx hb hX hbl hbA hS s1 dL_law_565 ?_
    refine lv_aload_n hx hb dL_law_566 rfl (lv_at hl 1 rfl) ?_
    refine lv_iload hx hb dL_law_567 (lv_at hl 5 rfl) ?_
    refine lv_iconst (v := 2) hx hb dL_law_569 (by decide) ?_
    refine lv_iadd hx hb dL_law_570 ?_
    refine z_sld hx hb hX hbl hbA hS s2 dL_law_571 ?_
    refine z_callV1 (n := 2) (As := [.int p1, .int p2]) (rest := []) S (zM_perm lw_perm lw_perm.symm M) qm_L_117 ⟨⟨qi_X6_move, qs_X6_move, qn_X6, qc_X6_move⟩, rfl, by decide, by decide, by decide +kernel⟩ ⟨Nat.le_of_ble_eq_true rfl, Nat.le_of_ble_eq_true rfl⟩ rfl rfl hN hK hP hD hS hA 140 rfl rfl rfl hl.1 rfl (Nat.le_of_ble_eq_true rfl) dL_law_572 hcs (fun Hp locs hP hD hS => ?_)
    have hKt : (upd mr 2 (kMove z n p1 p2)) 2 = (kMove z n p1 p2) := upd_eq rfl
    have hKv : (kMove z n p1 p2) = 0 → fo 0 = (0 : Int32).toInt64 := fun h9 => absurd h9 hk
    refine lw_tail (o := o) (q := q) (fo := fo) S (zM_perm lw_perm lw_perm.symm (c_X6_thrown (q := q) (mr := (upd mr 2 (kMove z n p1 p2))))) ⟨Nat.le_of_ble_eq_true rfl, Nat.le_of_ble_eq_true rfl⟩ hN hK hP hD hS hA rfl rfl hcs hl hKt hKv dL_law_575 dL_law_577 dL_law_578 dL_law_581 dL_law_583 dL_law_588 dL_law_590 dL_law_593 dL_law_594 dL_law_595 dL_law_596 dL_law_598 dL_law_599 dL_law_600 dL_law_605 (by decide) (fun Hp locs ls hP hD hS hl => ?_)
    exact kk n z zh nx kp hi H T nb r pa ke (upd mr 2 (kMove z n p1 p2)) hs fo (lwI_up hI (by omega) (upd_ne (by decide)) (upd_ne (by decide))) Hp locs ls hP hD hS hl
