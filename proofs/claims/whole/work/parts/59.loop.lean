/-! The law's loop. -/
theorem lw_ret0 {p : Program} {l : Launch} {e : Env} {s : State} {m : MethodId} {below : List Frame} {meth : Method} {c : Code} {b : Nat} (hx : p.tables.exec = Jvm.exec) (hb : c.code = code) (hr : meth.sig.returnType = ret) (hlocks : meth.locks = false) {pc : Nat} {H : Heap} {ls : Array Slot} (hdg : decode code pc = .ok (.ireturn, 1)) : W p l e room_1 s m #[Value.ref b] below meth c H [] 601024 7293034 (lw_Z below #[Value.ref b] s) (F0 m pc ls [.int 1]) :=
  W.base (lw_ret (d0 := s.drawn) (Drawn.sameBut.refl s.drawn lw_cs) hx hb hr hlocks hdg)
theorem gt_iff {i L : Nat} (hi : i < 2 ^ 30) (hL : L < 2 ^ 30) : (nI L - 5 < nI i) ↔ L < i + 5 := by
  have h5 : (5 : Int32).toInt = 5 := by decide
  have e1 : (nI L).toInt = (L : Int) := nI_toInt (by omega)
  have e2 : (nI i).toInt = (i : Int) := nI_toInt (by omega)
  rw [t_lt, t_sub (by omega) (by omega), e1, e2, h5]
  omega
set_option maxHeartbeats 8000000 in
set_option maxRecDepth 100000 in
theorem law_loop {p : Program} {l : Launch} {e : Env} {s : State} {m : MethodId} {below : List Frame} {meth : Method} {c : Code} {b L : Nat} {xs : Nat → Int32} {D : va_G} {cI cC cM cB cJ : ClassId} {ad t : Nat → Nat} {x : Nat} {h : Nat → Nat} {ah : Nat → Nat → Nat} {q : Nat → Nat} {o : Nat} (E : lwEnv p s m meth c b L xs D cI cC cM cB cJ) (hfl : l.stackTraces = false) (hL : L ≤ 2560) : ∀ (f k : Nat), k ≤ 512 → 513 ≤ k + f → ∀ (n : Nat) (z : Nat → Int32) (zh : Nat → Nat → Int32) (nx kp : Nat) (hi : Nat → Int32) (H : Nat → Nat → Int32) (T : Nat → Int32) (nb : Nat) (r pa ke mr : Nat → Int32) (hs : Int64) (fo : Nat → Int64), lwI (1 + 10 * k) n z zh nx kp hi H T nb mr → ∀ (Hp : Heap) (locs : List Loc) (ls : Array Slot), va_P D vwCl (xw0 cI cC cM cB ad z t T (nI nb) r x h ah (nI nx) (nI kp) zh (outC cJ o fo :: moW cI q z hi T pa ke mr hs [])) Hp → va_D (fun q : Nat => s.heap.size ≤ q) (xw0 cI cC cM cB ad z t T (nI nb) r x h ah (nI nx) (nI kp) zh (outC cJ o fo :: moW cI q z hi T pa ke mr hs [])) → va_S (fun q : Nat => s.heap.size ≤ q) s.heap Hp locs → lv_has ls 9 (lwL b x o q (nI (5 * k))) → W p l e room_1 s m #[Value.ref b] below meth c Hp locs (200 + k) (3000 + 6 * k) (lw_Z below #[Value.ref b] s) (F0 m 23 ls []) := by
  obtain ⟨⟨hx, hb, hr, hml, hown, hts, hX, hbl, hlocks, hgv⟩, hCn, hJ, hN, hK⟩ := id E
  have hbA : ¬ (fun q : Nat => s.heap.size ≤ q) b := Nat.not_le.mpr hbl
  intro f
  induction f with
  | zero => intro k h1 h2; exact absurd h2 (by omega)
  | succ f ih =>
    intro k hk hf n z zh nx kp hi H T nb r pa ke mr hs fo hI Hp locs ls hP hD hS hl
    refine lv_iload hx hb dL_law_23 (lv_at hl 4 rfl) ?_
    refine lv_aload_n hx hb dL_law_25 rfl (lv_at hl 0 rfl) ?_
    refine va_slen hx hb hX hbl hbA hS dL_law_26 ?_
    refine lv_iconst (v := 5) hx hb dL_law_27 (by decide) ?_
    refine lv_isub hx hb dL_law_28 ?_
    refine lv_icmp_gt (tgt := 1604) hx hb dL_law_29 (by decide) (fun c9 => ?_) (fun c9 => ?_)
    · refine lv_iconst (v := 1) hx hb dL_law_1604 (by decide) ?_
      refine va_forget (fun q hq => hS.2.2 q hq) ?_
      refine W.widen (k := 601024) (n := 7293034) (by omega) (by omega) ?_
      exact lw_ret0 hx hb hr hlocks dL_law_1605
    · have hlt : 5 * k + 5 ≤ L := by
        rcases Nat.lt_or_ge L (5 * k + 5) with q9 | q9
        · exact absurd ((gt_iff (i := 5 * k) (L := L) (by omega) (by omega)).mpr q9) c9
        · exact q9
      have a1 : nI (5 * k) + 1 = nI (5 * k + 1) := nI_1 _
      have a2 : nI (5 * k) + 2 = nI (5 * k + 2) := nI_add (5 * k) 2
      have a3 : nI (5 * k) + 3 = nI (5 * k + 3) := nI_add (5 * k) 3
      have a4 : nI (5 * k) + 4 = nI (5 * k + 4) := nI_add (5 * k) 4
      have a5 : nI (5 * k) + 5 = nI (5 * (k + 1)) := nI_add (5 * k) 5
      have sc : lwScr xs L (nI (5 * k)) (xs (nI (5 * k) + 1).toNatClampNeg) (xs (nI (5 * k) + 2).toNatClampNeg) (xs (nI (5 * k) + 3).toNatClampNeg) (xs (nI (5 * k) + 4).toNatClampNeg) := by
        refine ⟨⟨?_, rfl⟩, ⟨?_, rfl⟩, ⟨?_, rfl⟩, ⟨?_, rfl⟩⟩
        · rw [a1]; exact vp_in_nI (by omega) (by omega)
        · rw [a2]; exact vp_in_nI (by omega) (by omega)
        · rw [a3]; exact vp_in_nI (by omega) (by omega)
        · rw [a4]; exact vp_in_nI (by omega) (by omega)
      have kk : lwK p l e s m below meth c b D cI cC cM cB cJ ad t x h ah q o (nI (5 * k)) (1 + 10 * k + 10) (200 + k + 1) (3000 + 6 * k + 6) := by
        intro n z zh nx kp hi H T nb r pa ke mr hs fo hI Hp locs ls hP hD hS hl
        refine lv_iinc (v := nI (5 * (k + 1))) (lv' := [(4, .int (nI (5 * (k + 1)))), (0, .ref b), (1, .ref x), (2, .ref (q 0)), (3, .ref o)]) hx hb dL_law_1598 hl (k := 4) rfl a5 (by decide) rfl (fun ls hl => ?_)
        refine lv_goto (tgt := 23) hx hb dL_law_1601 (by decide) ?_
        exact ih (k + 1) (by omega) (by omega) n z zh nx kp hi H T nb r pa ke mr hs fo hI Hp locs ls hP hD hS (lv_sub hl [1, 2, 3, 4, 0] rfl)
      have hC : 1 + 10 * k + 10 ≤ 6000 := by omega
      have hC1 : 1 ≤ 1 + 10 * k := by omega
      have hcs : 200 + k + 1 ≤ 601024 ∧ 3000 + 6 * k + 6 ≤ 7293034 := by omega
      refine lv_aload_n hx hb dL_law_32 rfl (lv_at hl 0 rfl) ?_
      refine lv_iload hx hb dL_law_33 (lv_at hl 4 rfl) ?_
      refine va_sld hx hb hX hbl hbA hS (vp_in_nI (by omega) (by omega)) dL_law_35 ?_
      refine lv_bipush (v := 31) hx hb dL_law_36 (by decide) ?_
      refine lv_iand hx hb dL_law_38 ?_
      obtain ⟨j, hj, ej⟩ := pk_andE (xs (nI (5 * k)).toNatClampNeg) (m := 31) 5 (by decide)
      rw [ej]
      have hj : j < 32 := hj
      have jt : (nI j).toInt = (j : Int) := nI_toInt (by omega)
      by_cases big : 26 ≤ j
      · refine lv_tableOut (tgt := 1598) hx hb dL_law_39 (Or.inr (by rw [jt]; omega)) (by decide) ?_
        refine W.widen (k := 200 + k + 1) (n := 3000 + 6 * k + 6) (by omega) (by omega) ?_
        exact kk n z zh nx kp hi H T nb r pa ke mr hs fo (lwI_up hI (by omega) rfl rfl) Hp locs ls hP hD hS hl
      · have cs : j = 0 ∨ j = 1 ∨ j = 2 ∨ j = 3 ∨ j = 4 ∨ j = 5 ∨ j = 6 ∨ j = 7 ∨ j = 8 ∨ j = 9 ∨ j = 10 ∨ j = 11 ∨ j = 12 ∨ j = 13 ∨ j = 14 ∨ j = 15 ∨ j = 16 ∨ j = 17 ∨ j = 18 ∨ j = 19 ∨ j = 20 ∨ j = 21 ∨ j = 22 ∨ j = 23 ∨ j = 24 ∨ j = 25 := by omega
        rcases cs with rfl | rfl | rfl | rfl | rfl | rfl | rfl | rfl | rfl | rfl | rfl | rfl | rfl | rfl | rfl | rfl | rfl | rfl | rfl | rfl | rfl | rfl | rfl | rfl | rfl | rfl
        · refine lv_tableIn (tgt := 156) (off := 117) hx hb dL_law_39 (by decide) (by decide) (by decide) (by decide) ?_
          exact k_join E hfl hC hC1 hI hcs hP hD hS hl sc kk
        · refine lv_tableIn (tgt := 200) (off := 161) hx hb dL_law_39 (by decide) (by decide) (by decide) (by decide) ?_
          exact k_leave E hfl hC hC1 hI hcs hP hD hS hl sc kk
        · refine lv_tableIn (tgt := 256) (off := 217) hx hb dL_law_39 (by decide) (by decide) (by decide) (by decide) ?_
          exact k_give E hfl hC hC1 hI hcs hP hD hS hl sc kk
        · refine lv_tableIn (tgt := 348) (off := 309) hx hb dL_law_39 (by decide) (by decide) (by decide) (by decide) ?_
          exact k_donate E hfl hC hC1 hI hcs hP hD hS hl sc kk
        · refine lv_tableIn (tgt := 416) (off := 377) hx hb dL_law_39 (by decide) (by decide) (by decide) (by decide) ?_
          exact k_pass E hfl hC hC1 hI hcs hP hD hS hl sc kk
        · refine lv_tableIn (tgt := 472) (off := 433) hx hb dL_law_39 (by decide) (by decide) (by decide) (by decide) ?_
          exact k_set E hfl hC hC1 hI hcs hP hD hS hl sc kk
        · refine lv_tableIn (tgt := 540) (off := 501) hx hb dL_law_39 (by decide) (by decide) (by decide) (by decide) ?_
          exact k_move E hfl hC hC1 hI hcs hP hD hS hl sc kk
        · refine lv_tableIn (tgt := 608) (off := 569) hx hb dL_law_39 (by decide) (by decide) (by decide) (by decide) ?_
          exact k_vote E hfl hC hC1 hI hcs hP hD hS hl sc kk
        · refine lv_tableIn (tgt := 692) (off := 653) hx hb dL_law_39 (by decide) (by decide) (by decide) (by decide) ?_
          exact k_takeBack E hfl hC hC1 hI hcs hP hD hS hl sc kk
        · refine lv_tableIn (tgt := 736) (off := 697) hx hb dL_law_39 (by decide) (by decide) (by decide) (by decide) ?_
          exact k_append E hfl hC hC1 hI hcs hP hD hS hl sc kk
        · refine lv_tableIn (tgt := 792) (off := 753) hx hb dL_law_39 (by decide) (by decide) (by decide) (by decide) ?_
          exact k_clearBuffer E hfl hC hC1 hI hcs hP hD hS hl sc kk
        · refine lv_tableIn (tgt := 805) (off := 766) hx hb dL_law_39 (by decide) (by decide) (by decide) (by decide) ?_
          exact k_firstError E hfl hC hC1 hI hcs hP hD hS hl sc kk
        · refine lv_tableIn (tgt := 818) (off := 779) hx hb dL_law_39 (by decide) (by decide) (by decide) (by decide) ?_
          exact k_run E hfl hC hC1 hI hcs hP hD hS hl sc kk
        · refine lv_tableIn (tgt := 862) (off := 823) hx hb dL_law_39 (by decide) (by decide) (by decide) (by decide) ?_
          exact k_undo E hfl hC hC1 hI hcs hP hD hS hl sc kk
        · refine lv_tableIn (tgt := 906) (off := 867) hx hb dL_law_39 (by decide) (by decide) (by decide) (by decide) ?_
          exact k_member E hfl hC hC1 hI hcs hP hD hS hl sc kk
        · refine lv_tableIn (tgt := 974) (off := 935) hx hb dL_law_39 (by decide) (by decide) (by decide) (by decide) ?_
          exact k_skill E hfl hC hC1 hI hcs hP hD hS hl sc kk
        · refine lv_tableIn (tgt := 1054) (off := 1015) hx hb dL_law_39 (by decide) (by decide) (by decide) (by decide) ?_
          exact k_count E hfl hC hC1 hI hcs hP hD hS hl sc kk
        · refine lv_tableIn (tgt := 1110) (off := 1071) hx hb dL_law_39 (by decide) (by decide) (by decide) (by decide) ?_
          exact k_setting E hfl hC hC1 hI hcs hP hD hS hl sc kk
        · refine lv_tableIn (tgt := 1166) (off := 1127) hx hb dL_law_39 (by decide) (by decide) (by decide) (by decide) ?_
          exact k_worth E hfl hC hC1 hI hcs hP hD hS hl sc kk
        · refine lv_tableIn (tgt := 1246) (off := 1207) hx hb dL_law_39 (by decide) (by decide) (by decide) (by decide) ?_
          exact k_longest E hfl hC hC1 hI hcs hP hD hS hl sc kk
        · refine lv_tableIn (tgt := 1326) (off := 1287) hx hb dL_law_39 (by decide) (by decide) (by decide) (by decide) ?_
          exact k_cheapest E hfl hC hC1 hI hcs hP hD hS hl sc kk
        · refine lv_tableIn (tgt := 1406) (off := 1367) hx hb dL_law_39 (by decide) (by decide) (by decide) (by decide) ?_
          exact k_decayIn E hfl hC hC1 hI hcs hP hD hS hl sc kk
        · refine lv_tableIn (tgt := 1474) (off := 1435) hx hb dL_law_39 (by decide) (by decide) (by decide) (by decide) ?_
          exact k_votesNeeded E hfl hC hC1 hI hcs hP hD hS hl sc kk
        · refine lv_tableIn (tgt := 1487) (off := 1448) hx hb dL_law_39 (by decide) (by decide) (by decide) (by decide) ?_
          exact k_ripest E hfl hC hC1 hI hcs hP hD hS hl sc kk
        · refine lv_tableIn (tgt := 1543) (off := 1504) hx hb dL_law_39 (by decide) (by decide) (by decide) (by decide) ?_
          exact k_minuteWorth E hfl hC hC1 hI hcs hP hD hS hl sc kk
        · refine lv_tableIn (tgt := 1584) (off := 1545) hx hb dL_law_39 (by decide) (by decide) (by decide) (by decide) ?_
          exact k_digest E hfl hC hC1 hI hcs hP hD hS hl sc kk
