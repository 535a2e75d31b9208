theorem cpJ_eq {f g : Nat → Int32} {j : Nat} : upd (upd (upd (upd (upd (upd (upd (upd (upd (upd (upd (upd (cpK f g j 5) (14 + 16 * j) (g (14 + 16 * j))) (14 + 16 * j + 4) (g (14 + 16 * j + 4))) (14 + 16 * j + 1) (g (14 + 16 * j + 1))) (14 + 16 * j + 2) (g (14 + 16 * j + 2))) (14 + 16 * j + 3) (g (14 + 16 * j + 3))) (14 + 16 * j + 5) (g (14 + 16 * j + 5))) (14 + 16 * j + 6) (g (14 + 16 * j + 6))) (14 + 16 * j + 7) (g (14 + 16 * j + 7))) (14 + 16 * j + 8) (g (14 + 16 * j + 8))) (14 + 16 * j + 9) (g (14 + 16 * j + 9))) (14 + 16 * j + 10) (g (14 + 16 * j + 10))) (142 + j) (g (142 + j)) = cpJ f g j := by
  funext q
  simp only [upd, cpK, cpJ]
  by_cases hballot : q = 142 + j
  · subst hballot; rw [if_pos rfl, if_pos (by omega)]
  rw [if_neg hballot]
  by_cases hforgiven : q = 14 + 16 * j + 10
  · subst hforgiven; rw [if_pos rfl, if_pos (by omega)]
  rw [if_neg hforgiven]
  by_cases hdecayed : q = 14 + 16 * j + 9
  · subst hdecayed; rw [if_pos rfl, if_pos (by omega)]
  rw [if_neg hdecayed]
  by_cases hpaid : q = 14 + 16 * j + 8
  · subst hpaid; rw [if_pos rfl, if_pos (by omega)]
  rw [if_neg hpaid]
  by_cases hearned : q = 14 + 16 * j + 7
  · subst hearned; rw [if_pos rfl, if_pos (by omega)]
  rw [if_neg hearned]
  by_cases hminutesTaken : q = 14 + 16 * j + 6
  · subst hminutesTaken; rw [if_pos rfl, if_pos (by omega)]
  rw [if_neg hminutesTaken]
  by_cases hminutesGiven : q = 14 + 16 * j + 5
  · subst hminutesGiven; rw [if_pos rfl, if_pos (by omega)]
  rw [if_neg hminutesGiven]
  by_cases hidleWeeks : q = 14 + 16 * j + 3
  · subst hidleWeeks; rw [if_pos rfl, if_pos (by omega)]
  rw [if_neg hidleWeeks]
  by_cases hloan : q = 14 + 16 * j + 2
  · subst hloan; rw [if_pos rfl, if_pos (by omega)]
  rw [if_neg hloan]
  by_cases hbalance : q = 14 + 16 * j + 1
  · subst hbalance; rw [if_pos rfl, if_pos (by omega)]
  rw [if_neg hbalance]
  by_cases hisBusy : q = 14 + 16 * j + 4
  · subst hisBusy; rw [if_pos rfl, if_pos (by omega)]
  rw [if_neg hisBusy]
  by_cases hisThere : q = 14 + 16 * j
  · subst hisThere; rw [if_pos rfl, if_pos (by omega)]
  rw [if_neg hisThere]
  by_cases h : 25 + 16 * j ≤ q ∧ q < 25 + 16 * j + 5
  · rw [if_pos h, if_pos (by omega)]
  · rw [if_neg h, if_neg (by omega)]
theorem cpK_0 {f g : Nat → Int32} {j : Nat} : f = cpK f g j 0 := by
  funext q
  simp only [cpK]
  rw [if_neg (by omega)]
theorem cpK_s {f g : Nat → Int32} {j k : Nat} : upd (cpK f g j k) (25 + 16 * j + k) (g (25 + 16 * j + k)) = cpK f g j (k + 1) := by
  funext q
  simp only [upd, cpK]
  by_cases h : q = 25 + 16 * j + k
  · subst h; rw [if_pos rfl, if_pos (by omega)]
  · rw [if_neg h]
    by_cases h2 : 25 + 16 * j ≤ q ∧ q < 25 + 16 * j + k
    · rw [if_pos h2, if_pos (by omega)]
    · rw [if_neg h2, if_neg (by omega)]
theorem cpI_0 {f g : Nat → Int32} : f = cpI f g 0 := by
  funext q
  simp only [cpI]
  rw [if_neg (by omega)]
theorem cpI_s {f g : Nat → Int32} {i : Nat} : cpJ (cpI f g i) g i = cpI f g (i + 1) := by
  funext q
  simp only [cpJ, cpI]
  by_cases h : (14 + 16 * i ≤ q ∧ q < 30 + 16 * i) ∨ q = 142 + i
  · rw [if_pos h]
    by_cases h3 : (14 ≤ q ∧ q < 14 + 16 * (i + 1)) ∨ (142 ≤ q ∧ q < 142 + (i + 1))
    · rw [if_pos h3]
    · exact absurd h3 (by omega)
  · rw [if_neg h]
    by_cases h2 : (14 ≤ q ∧ q < 14 + 16 * i) ∨ (142 ≤ q ∧ q < 142 + i)
    · rw [if_pos h2, if_pos (by omega)]
    · rw [if_neg h2, if_neg (by omega)]
theorem cpA_0 {f g : Nat → Int32} : cpI f g 8 = cpA f g 0 := by
  funext q
  simp only [cpI, cpA]
  by_cases h : q < 0 ∨ (14 ≤ q ∧ q < 150)
  · rw [if_pos h, if_pos (by omega)]
  · rw [if_neg h, if_neg (by omega)]
theorem cpA_s {f g : Nat → Int32} {k : Nat} : upd (cpA f g k) k (g k) = cpA f g (k + 1) := by
  funext q
  simp only [upd, cpA]
  by_cases h : q = k
  · subst h; rw [if_pos rfl, if_pos (by omega)]
  · rw [if_neg h]
    by_cases h2 : q < k ∨ (14 ≤ q ∧ q < 150)
    · rw [if_pos h2, if_pos (by omega)]
    · rw [if_neg h2, if_neg (by omega)]
theorem cpB_eq {cI cM : ClassId} {ad : Nat → Nat} {z z2 : Nat → Int32} {wr : va_W} : bkW cI cM ad (upd (upd (upd (upd (upd (upd (upd (cpA z z2 5) 5 (z2 5)) 6 (z2 6)) 7 (z2 7)) 8 (z2 8)) 9 (z2 9)) 10 (z2 10)) 11 (z2 11)) wr = bkW cI cM ad z2 wr :=
  bkW_congr (fun q h1 h2 h3 => by
    simp only [upd, cpA]
    by_cases h_11 : q = 11
    · subst h_11; rw [if_pos rfl]
    rw [if_neg h_11]
    by_cases h_10 : q = 10
    · subst h_10; rw [if_pos rfl]
    rw [if_neg h_10]
    by_cases h_9 : q = 9
    · subst h_9; rw [if_pos rfl]
    rw [if_neg h_9]
    by_cases h_8 : q = 8
    · subst h_8; rw [if_pos rfl]
    rw [if_neg h_8]
    by_cases h_7 : q = 7
    · subst h_7; rw [if_pos rfl]
    rw [if_neg h_7]
    by_cases h_6 : q = 6
    · subst h_6; rw [if_pos rfl]
    rw [if_neg h_6]
    by_cases h_5 : q = 5
    · subst h_5; rw [if_pos rfl]
    rw [if_neg h_5]
    rw [if_pos (by omega)])

section XB
variable {l : Launch} {D : va_G} {cI cC cM cB cJ : ClassId} {ad ad2 : Nat → Nat} {z z2 : Nat → Int32} {wr : va_W}
set_option maxHeartbeats 4000000 in
set_option maxRecDepth 100000 in
theorem c_X4_copyFrom (j : Nat) (hj : j < 8) (hB : ∀ i : Nat, i < 8 → (z2 (14 + 16 * i) = 0 ∨ z2 (14 + 16 * i) = 1) ∧ (z2 (14 + 16 * i + 4) = 0 ∨ z2 (14 + 16 * i + 4) = 1)) : zM l D (zT cI cC cM cB cJ) yX4_copyFrom cX4_copyFrom 3 none ({ frames := 0, cells := 0, slots := 0, locals := 0 } : Room) [.ref (ad (3 + j)), .ref (ad2 (3 + j))] (bkW cI cM ad z (bkW cI cM ad2 z2 wr)) (bkW cI cM ad (cpJ z z2 j) (bkW cI cM ad2 z2 wr)) none 0 0 := by
  refine z_enter (by decide) (Nat.le_of_ble_eq_true rfl) ?_
  intro p e s m below meth c A S hr hlocks hnm hN hA hK hP hD hS ls hl
  obtain ⟨hx, hb, hml, hown, hts⟩ := id S
  have hl : lv_has ls 3 [(0, .ref (ad (3 + j))), (1, .ref (ad2 (3 + j)))] := hl
  have hP : va_P D vwCl (bkW cI cM ad z (bkW cI cM ad2 z2 wr)) s.heap := hP
  have hD : va_D A (bkW cI cM ad z (bkW cI cM ad2 z2 wr)) := hD
  refine lv_iconst (v := 0) hx hb dX4_copyFrom_0 (by decide) ?_
  refine lv_istore_n (lv' := [(2, .int 0), (0, .ref (ad (3 + j))), (1, .ref (ad2 (3 + j)))]) hx hb dX4_copyFrom_1 rfl hl (by decide) rfl (fun ls hl => ?_)
  have K2 : ∀ (n2 i : Nat), i + n2 = 5 → ∀ (H : Heap) (locs : List Loc), va_P D vwCl (bkW cI cM ad (cpK z z2 j i) (bkW cI cM ad2 z2 wr)) H → va_D A (bkW cI cM ad (cpK z z2 j i) (bkW cI cM ad2 z2 wr)) → va_S A s.heap H locs → ∀ ls : Array Slot, lv_has ls 3 [(0, .ref (ad (3 + j))), (1, .ref (ad2 (3 + j))), (2, .int (nI i))] → W p l e ({ frames := 0, cells := 0, slots := 0, locals := 0 } : Room) s m ([.ref (ad (3 + j)), .ref (ad2 (3 + j))] : List Value).toArray below meth c H locs 0 0 (MQ below (zQ D (zT cI cC cM cB cJ) (bkW cI cM ad (cpJ z z2 j) (bkW cI cM ad2 z2 wr)) none A) ([.ref (ad (3 + j)), .ref (ad2 (3 + j))] : List Value).toArray s 0 0 A) (F0 m 2 ls []) := by
    intro n2
    induction n2 with
    | zero =>
      intro i hi H locs hP hD hS ls hl
      have ei : 5 = i := by omega
      subst ei
      refine lv_iload_n hx hb dX4_copyFrom_2 rfl (lv_at hl 2 rfl) ?_
      refine lv_iconst (v := 5) hx hb dX4_copyFrom_3 (by decide) ?_
      refine lv_icmp_ge (tgt := 25) hx hb dX4_copyFrom_4 (by decide) (fun c1 => ?_) (fun c1 => absurd (nI_le (a := 5) (b := 5) (by omega) (by omega)) c1)
      have c1 := z_nlt c1
      refine lv_aload_n hx hb dX4_copyFrom_25 rfl (lv_at hl 0 rfl) ?_
      refine lv_aload_n hx hb dX4_copyFrom_26 rfl (lv_at hl 1 rfl) ?_
      refine va_get (v := .int (z2 (14 + 16 * j))) hx hb hts inTX4 hown hK hP (19 + (3 + j)) ((bk_r).trans (bk_m (show j < 8 by omega))) rfl 1 (by decide) (hts _ qf_X4_15) (fun _ h9 => h9) (rfl) dX4_copyFrom_27 ?_
      refine z_put (v := .int (z2 (14 + 16 * j))) (ty := .boolean) (ws2 := bkW cI cM ad (upd (cpK z z2 j 5) (14 + 16 * j) (z2 (14 + 16 * j))) (bkW cI cM ad2 z2 wr)) hx hb hts inTX4 tyX4 tyX4_ok nmX4 hown hK hP hD hS (3 + j) (bk_m (show j < 8 by omega)) rfl 1 (by decide) (hts _ qf_X4_15) (fun _ h9 => h9) rfl (by decide +kernel) (zb_n (hB j hj).1) (zb_f (hB j hj).1) (Nat.le_of_ble_eq_true rfl) dX4_copyFrom_30 (bk_wm _ (show j < 8 by omega) (by omega) (mfs_s1 (show j < 8 by omega))) (fun H locs hP hD hS => ?_)
      refine lv_aload_n hx hb dX4_copyFrom_33 rfl (lv_at hl 0 rfl) ?_
      refine lv_aload_n hx hb dX4_copyFrom_34 rfl (lv_at hl 1 rfl) ?_
      refine va_get (v := .int (z2 (14 + 16 * j + 4))) hx hb hts inTX4 hown hK hP (19 + (3 + j)) ((bk_r).trans (bk_m (show j < 8 by omega))) rfl 2 (by decide) (hts _ qf_X4_19) (fun _ h9 => h9) (rfl) dX4_copyFrom_35 ?_
      refine z_put (v := .int (z2 (14 + 16 * j + 4))) (ty := .boolean) (ws2 := bkW cI cM ad (upd (upd (cpK z z2 j 5) (14 + 16 * j) (z2 (14 + 16 * j))) (14 + 16 * j + 4) (z2 (14 + 16 * j + 4))) (bkW cI cM ad2 z2 wr)) hx hb hts inTX4 tyX4 tyX4_ok nmX4 hown hK hP hD hS (3 + j) (bk_m (show j < 8 by omega)) rfl 2 (by decide) (hts _ qf_X4_19) (fun _ h9 => h9) rfl (by decide +kernel) (zb_n (hB j hj).2) (zb_f (hB j hj).2) (Nat.le_of_ble_eq_true rfl) dX4_copyFrom_38 (bk_wm _ (show j < 8 by omega) (by omega) (mfs_s2 (show j < 8 by omega))) (fun H locs hP hD hS => ?_)
      refine lv_aload_n hx hb dX4_copyFrom_41 rfl (lv_at hl 0 rfl) ?_
      refine lv_aload_n hx hb dX4_copyFrom_42 rfl (lv_at hl 1 rfl) ?_
      refine va_get (v := .int (z2 (14 + 16 * j + 1))) hx hb hts inTX4 hown hK hP (19 + (3 + j)) ((bk_r).trans (bk_m (show j < 8 by omega))) rfl 3 (by decide) (hts _ qf_X4_22) (fun _ h9 => h9) (rfl) dX4_copyFrom_43 ?_
      refine z_put (v := .int (z2 (14 + 16 * j + 1))) (ty := .int) (ws2 := bkW cI cM ad (upd (upd (upd (cpK z z2 j 5) (14 + 16 * j) (z2 (14 + 16 * j))) (14 + 16 * j + 4) (z2 (14 + 16 * j + 4))) (14 + 16 * j + 1) (z2 (14 + 16 * j + 1))) (bkW cI cM ad2 z2 wr)) hx hb hts inTX4 tyX4 tyX4_ok nmX4 hown hK hP hD hS (3 + j) (bk_m (show j < 8 by omega)) rfl 3 (by decide) (hts _ qf_X4_22) (fun _ h9 => h9) rfl (by decide +kernel) (rfl) (rfl) (Nat.le_of_ble_eq_true rfl) dX4_copyFrom_46 (bk_wm _ (show j < 8 by omega) (by omega) (mfs_s3 (show j < 8 by omega))) (fun H locs hP hD hS => ?_)
      refine lv_aload_n hx hb dX4_copyFrom_49 rfl (lv_at hl 0 rfl) ?_
      refine lv_aload_n hx hb dX4_copyFrom_50 rfl (lv_at hl 1 rfl) ?_
      refine va_get (v := .int (z2 (14 + 16 * j + 2))) hx hb hts inTX4 hown hK hP (19 + (3 + j)) ((bk_r).trans (bk_m (show j < 8 by omega))) rfl 4 (by decide) (hts _ qf_X4_26) (fun _ h9 => h9) (rfl) dX4_copyFrom_51 ?_
      refine z_put (v := .int (z2 (14 + 16 * j + 2))) (ty := .int) (ws2 := bkW cI cM ad (upd (upd (upd (upd (cpK z z2 j 5) (14 + 16 * j) (z2 (14 + 16 * j))) (14 + 16 * j + 4) (z2 (14 + 16 * j + 4))) (14 + 16 * j + 1) (z2 (14 + 16 * j + 1))) (14 + 16 * j + 2) (z2 (14 + 16 * j + 2))) (bkW cI cM ad2 z2 wr)) hx hb hts inTX4 tyX4 tyX4_ok nmX4 hown hK hP hD hS (3 + j) (bk_m (show j < 8 by omega)) rfl 4 (by decide) (hts _ qf_X4_26) (fun _ h9 => h9) rfl (by decide +kernel) (rfl) (rfl) (Nat.le_of_ble_eq_true rfl) dX4_copyFrom_54 (bk_wm _ (show j < 8 by omega) (by omega) (mfs_s4 (show j < 8 by omega))) (fun H locs hP hD hS => ?_)
      refine lv_aload_n hx hb dX4_copyFrom_57 rfl (lv_at hl 0 rfl) ?_
      refine lv_aload_n hx hb dX4_copyFrom_58 rfl (lv_at hl 1 rfl) ?_
      refine va_get (v := .int (z2 (14 + 16 * j + 3))) hx hb hts inTX4 hown hK hP (19 + (3 + j)) ((bk_r).trans (bk_m (show j < 8 by omega))) rfl 5 (by decide) (hts _ qf_X4_29) (fun _ h9 => h9) (rfl) dX4_copyFrom_59 ?_
      refine z_put (v := .int (z2 (14 + 16 * j + 3))) (ty := .int) (ws2 := bkW cI cM ad (upd (upd (upd (upd (upd (cpK z z2 j 5) (14 + 16 * j) (z2 (14 + 16 * j))) (14 + 16 * j + 4) (z2 (14 + 16 * j + 4))) (14 + 16 * j + 1) (z2 (14 + 16 * j + 1))) (14 + 16 * j + 2) (z2 (14 + 16 * j + 2))) (14 + 16 * j + 3) (z2 (14 + 16 * j + 3))) (bkW cI cM ad2 z2 wr)) hx hb hts inTX4 tyX4 tyX4_ok nmX4 hown hK hP hD hS (3 + j) (bk_m (show j < 8 by omega)) rfl 5 (by decide) (hts _ qf_X4_29) (fun _ h9 => h9) rfl (by decide +kernel) (rfl) (rfl) (Nat.le_of_ble_eq_true rfl) dX4_copyFrom_62 (bk_wm _ (show j < 8 by omega) (by omega) (mfs_s5 (show j < 8 by omega))) (fun H locs hP hD hS => ?_)
      refine lv_aload_n hx hb dX4_copyFrom_65 rfl (lv_at hl 0 rfl) ?_
      refine lv_aload_n hx hb dX4_copyFrom_66 rfl (lv_at hl 1 rfl) ?_
      refine va_get (v := .int (z2 (14 + 16 * j + 5))) hx hb hts inTX4 hown hK hP (19 + (3 + j)) ((bk_r).trans (bk_m (show j < 8 by omega))) rfl 6 (by decide) (hts _ qf_X4_32) (fun _ h9 => h9) (rfl) dX4_copyFrom_67 ?_
      refine z_put (v := .int (z2 (14 + 16 * j + 5))) (ty := .int) (ws2 := bkW cI cM ad (upd (upd (upd (upd (upd (upd (cpK z z2 j 5) (14 + 16 * j) (z2 (14 + 16 * j))) (14 + 16 * j + 4) (z2 (14 + 16 * j + 4))) (14 + 16 * j + 1) (z2 (14 + 16 * j + 1))) (14 + 16 * j + 2) (z2 (14 + 16 * j + 2))) (14 + 16 * j + 3) (z2 (14 + 16 * j + 3))) (14 + 16 * j + 5) (z2 (14 + 16 * j + 5))) (bkW cI cM ad2 z2 wr)) hx hb hts inTX4 tyX4 tyX4_ok nmX4 hown hK hP hD hS (3 + j) (bk_m (show j < 8 by omega)) rfl 6 (by decide) (hts _ qf_X4_32) (fun _ h9 => h9) rfl (by decide +kernel) (rfl) (rfl) (Nat.le_of_ble_eq_true rfl) dX4_copyFrom_70 (bk_wm _ (show j < 8 by omega) (by omega) (mfs_s6 (show j < 8 by omega))) (fun H locs hP hD hS => ?_)
      refine lv_aload_n hx hb dX4_copyFrom_73 rfl (lv_at hl 0 rfl) ?_
      refine lv_aload_n hx hb dX4_copyFrom_74 rfl (lv_at hl 1 rfl) ?_
      refine va_get (v := .int (z2 (14 + 16 * j + 6))) hx hb hts inTX4 hown hK hP (19 + (3 + j)) ((bk_r).trans (bk_m (show j < 8 by omega))) rfl 7 (by decide) (hts _ qf_X4_35) (fun _ h9 => h9) (rfl) dX4_copyFrom_75 ?_
      refine z_put (v := .int (z2 (14 + 16 * j + 6))) (ty := .int) (ws2 := bkW cI cM ad (upd (upd (upd (upd (upd (upd (upd (cpK z z2 j 5) (14 + 16 * j) (z2 (14 + 16 * j))) (14 + 16 * j + 4) (z2 (14 + 16 * j + 4))) (14 + 16 * j + 1) (z2 (14 + 16 * j + 1))) (14 + 16 * j + 2) (z2 (14 + 16 * j + 2))) (14 + 16 * j + 3) (z2 (14 + 16 * j + 3))) (14 + 16 * j + 5) (z2 (14 + 16 * j + 5))) (14 + 16 * j + 6) (z2 (14 + 16 * j + 6))) (bkW cI cM ad2 z2 wr)) hx hb hts inTX4 tyX4 tyX4_ok nmX4 hown hK hP hD hS (3 + j) (bk_m (show j < 8 by omega)) rfl 7 (by decide) (hts _ qf_X4_35) (fun _ h9 => h9) rfl (by decide +kernel) (rfl) (rfl) (Nat.le_of_ble_eq_true rfl) dX4_copyFrom_78 (bk_wm _ (show j < 8 by omega) (by omega) (mfs_s7 (show j < 8 by omega))) (fun H locs hP hD hS => ?_)
      refine lv_aload_n hx hb dX4_copyFrom_81 rfl (lv_at hl 0 rfl) ?_
      refine lv_aload_n hx hb dX4_copyFrom_82 rfl (lv_at hl 1 rfl) ?_
      refine va_get (v := .int (z2 (14 + 16 * j + 7))) hx hb hts inTX4 hown hK hP (19 + (3 + j)) ((bk_r).trans (bk_m (show j < 8 by omega))) rfl 8 (by decide) (hts _ qf_X4_38) (fun _ h9 => h9) (rfl) dX4_copyFrom_83 ?_
      refine z_put (v := .int (z2 (14 + 16 * j + 7))) (ty := .int) (ws2 := bkW cI cM ad (upd (upd (upd (upd (upd (upd (upd (upd (cpK z z2 j 5) (14 + 16 * j) (z2 (14 + 16 * j))) (14 + 16 * j + 4) (z2 (14 + 16 * j + 4))) (14 + 16 * j + 1) (z2 (14 + 16 * j + 1))) (14 + 16 * j + 2) (z2 (14 + 16 * j + 2))) (14 + 16 * j + 3) (z2 (14 + 16 * j + 3))) (14 + 16 * j + 5) (z2 (14 + 16 * j + 5))) (14 + 16 * j + 6) (z2 (14 + 16 * j + 6))) (14 + 16 * j + 7) (z2 (14 + 16 * j + 7))) (bkW cI cM ad2 z2 wr)) hx hb hts inTX4 tyX4 tyX4_ok nmX4 hown hK hP hD hS (3 + j) (bk_m (show j < 8 by omega)) rfl 8 (by decide) (hts _ qf_X4_38) (fun _ h9 => h9) rfl (by decide +kernel) (rfl) (rfl) (Nat.le_of_ble_eq_true rfl) dX4_copyFrom_86 (bk_wm _ (show j < 8 by omega) (by omega) (mfs_s8 (show j < 8 by omega))) (fun H locs hP hD hS => ?_)
      refine lv_aload_n hx hb dX4_copyFrom_89 rfl (lv_at hl 0 rfl) ?_
      refine lv_aload_n hx hb dX4_copyFrom_90 rfl (lv_at hl 1 rfl) ?_
      refine va_get (v := .int (z2 (14 + 16 * j + 8))) hx hb hts inTX4 hown hK hP (19 + (3 + j)) ((bk_r).trans (bk_m (show j < 8 by omega))) rfl 9 (by decide) (hts _ qf_X4_41) (fun _ h9 => h9) (rfl) dX4_copyFrom_91 ?_
      refine z_put (v := .int (z2 (14 + 16 * j + 8))) (ty := .int) (ws2 := bkW cI cM ad (upd (upd (upd (upd (upd (upd (upd (upd (upd (cpK z z2 j 5) (14 + 16 * j) (z2 (14 + 16 * j))) (14 + 16 * j + 4) (z2 (14 + 16 * j + 4))) (14 + 16 * j + 1) (z2 (14 + 16 * j + 1))) (14 + 16 * j + 2) (z2 (14 + 16 * j + 2))) (14 + 16 * j + 3) (z2 (14 + 16 * j + 3))) (14 + 16 * j + 5) (z2 (14 + 16 * j + 5))) (14 + 16 * j + 6) (z2 (14 + 16 * j + 6))) (14 + 16 * j + 7) (z2 (14 + 16 * j + 7))) (14 + 16 * j + 8) (z2 (14 + 16 * j + 8))) (bkW cI cM ad2 z2 wr)) hx hb hts inTX4 tyX4 tyX4_ok nmX4 hown hK hP hD hS (3 + j) (bk_m (show j < 8 by omega)) rfl 9 (by decide) (hts _ qf_X4_41) (fun _ h9 => h9) rfl (by decide +kernel) (rfl) (rfl) (Nat.le_of_ble_eq_true rfl) dX4_copyFrom_94 (bk_wm _ (show j < 8 by omega) (by omega) (mfs_s9 (show j < 8 by omega))) (fun H locs hP hD hS => ?_)
      refine lv_aload_n hx hb dX4_copyFrom_97 rfl (lv_at hl 0 rfl) ?_
      refine lv_aload_n hx hb dX4_copyFrom_98 rfl (lv_at hl 1 rfl) ?_
      refine va_get (v := .int (z2 (14 + 16 * j + 9))) hx hb hts inTX4 hown hK hP (19 + (3 + j)) ((bk_r).trans (bk_m (show j < 8 by omega))) rfl 10 (by decide) (hts _ qf_X4_44) (fun _ h9 => h9) (rfl) dX4_copyFrom_99 ?_
      refine z_put (v := .int (z2 (14 + 16 * j + 9))) (ty := .int) (ws2 := bkW cI cM ad (upd (upd (upd (upd (upd (upd (upd (upd (upd (upd (cpK z z2 j 5) (14 + 16 * j) (z2 (14 + 16 * j))) (14 + 16 * j + 4) (z2 (14 + 16 * j + 4))) (14 + 16 * j + 1) (z2 (14 + 16 * j + 1))) (14 + 16 * j + 2) (z2 (14 + 16 * j + 2))) (14 + 16 * j + 3) (z2 (14 + 16 * j + 3))) (14 + 16 * j + 5) (z2 (14 + 16 * j + 5))) (14 + 16 * j + 6) (z2 (14 + 16 * j + 6))) (14 + 16 * j + 7) (z2 (14 + 16 * j + 7))) (14 + 16 * j + 8) (z2 (14 + 16 * j + 8))) (14 + 16 * j + 9) (z2 (14 + 16 * j + 9))) (bkW cI cM ad2 z2 wr)) hx hb hts inTX4 tyX4 tyX4_ok nmX4 hown hK hP hD hS (3 + j) (bk_m (show j < 8 by omega)) rfl 10 (by decide) (hts _ qf_X4_44) (fun _ h9 => h9) rfl (by decide +kernel) (rfl) (rfl) (Nat.le_of_ble_eq_true rfl) dX4_copyFrom_102 (bk_wm _ (show j < 8 by omega) (by omega) (mfs_s10 (show j < 8 by omega))) (fun H locs hP hD hS => ?_)
      refine lv_aload_n hx hb dX4_copyFrom_105 rfl (lv_at hl 0 rfl) ?_
      refine lv_aload_n hx hb dX4_copyFrom_106 rfl (lv_at hl 1 rfl) ?_
      refine va_get (v := .int (z2 (14 + 16 * j + 10))) hx hb hts inTX4 hown hK hP (19 + (3 + j)) ((bk_r).trans (bk_m (show j < 8 by omega))) rfl 11 (by decide) (hts _ qf_X4_47) (fun _ h9 => h9) (rfl) dX4_copyFrom_107 ?_
      refine z_put (v := .int (z2 (14 + 16 * j + 10))) (ty := .int) (ws2 := bkW cI cM ad (upd (upd (upd (upd (upd (upd (upd (upd (upd (upd (upd (cpK z z2 j 5) (14 + 16 * j) (z2 (14 + 16 * j))) (14 + 16 * j + 4) (z2 (14 + 16 * j + 4))) (14 + 16 * j + 1) (z2 (14 + 16 * j + 1))) (14 + 16 * j + 2) (z2 (14 + 16 * j + 2))) (14 + 16 * j + 3) (z2 (14 + 16 * j + 3))) (14 + 16 * j + 5) (z2 (14 + 16 * j + 5))) (14 + 16 * j + 6) (z2 (14 + 16 * j + 6))) (14 + 16 * j + 7) (z2 (14 + 16 * j + 7))) (14 + 16 * j + 8) (z2 (14 + 16 * j + 8))) (14 + 16 * j + 9) (z2 (14 + 16 * j + 9))) (14 + 16 * j + 10) (z2 (14 + 16 * j + 10))) (bkW cI cM ad2 z2 wr)) hx hb hts inTX4 tyX4 tyX4_ok nmX4 hown hK hP hD hS (3 + j) (bk_m (show j < 8 by omega)) rfl 11 (by decide) (hts _ qf_X4_47) (fun _ h9 => h9) rfl (by decide +kernel) (rfl) (rfl) (Nat.le_of_ble_eq_true rfl) dX4_copyFrom_110 (bk_wm _ (show j < 8 by omega) (by omega) (mfs_s11 (show j < 8 by omega))) (fun H locs hP hD hS => ?_)
      refine lv_aload_n hx hb dX4_copyFrom_113 rfl (lv_at hl 0 rfl) ?_
      refine lv_aload_n hx hb dX4_copyFrom_114 rfl (lv_at hl 1 rfl) ?_
      refine va_get (v := .int (z2 (142 + j))) hx hb hts inTX4 hown hK hP (19 + (3 + j)) ((bk_r).trans (bk_m (show j < 8 by omega))) rfl 12 (by decide) (hts _ qf_X4_50) (fun _ h9 => h9) (rfl) dX4_copyFrom_115 ?_
      refine z_put (v := .int (z2 (142 + j))) (ty := .int) (ws2 := bkW cI cM ad (upd (upd (upd (upd (upd (upd (upd (upd (upd (upd (upd (upd (cpK z z2 j 5) (14 + 16 * j) (z2 (14 + 16 * j))) (14 + 16 * j + 4) (z2 (14 + 16 * j + 4))) (14 + 16 * j + 1) (z2 (14 + 16 * j + 1))) (14 + 16 * j + 2) (z2 (14 + 16 * j + 2))) (14 + 16 * j + 3) (z2 (14 + 16 * j + 3))) (14 + 16 * j + 5) (z2 (14 + 16 * j + 5))) (14 + 16 * j + 6) (z2 (14 + 16 * j + 6))) (14 + 16 * j + 7) (z2 (14 + 16 * j + 7))) (14 + 16 * j + 8) (z2 (14 + 16 * j + 8))) (14 + 16 * j + 9) (z2 (14 + 16 * j + 9))) (14 + 16 * j + 10) (z2 (14 + 16 * j + 10))) (142 + j) (z2 (142 + j))) (bkW cI cM ad2 z2 wr)) hx hb hts inTX4 tyX4 tyX4_ok nmX4 hown hK hP hD hS (3 + j) (bk_m (show j < 8 by omega)) rfl 12 (by decide) (hts _ qf_X4_50) (fun _ h9 => h9) rfl (by decide +kernel) (rfl) (rfl) (Nat.le_of_ble_eq_true rfl) dX4_copyFrom_118 (bk_wm _ (show j < 8 by omega) (by omega) (mfs_s12 (show j < 8 by omega))) (fun H locs hP hD hS => ?_)
      exact z_vret hx hb hr hlocks hP hD hK hS (congrArg (fun q_ => bkW cI cM ad q_ (bkW cI cM ad2 z2 wr)) cpJ_eq) (rfl) dX4_copyFrom_121
    | succ n2 ih2 =>
      intro i hi H locs hP hD hS ls hl
      have li : i < 5 := by omega
      refine lv_iload_n hx hb dX4_copyFrom_2 rfl (lv_at hl 2 rfl) ?_
      refine lv_iconst (v := 5) hx hb dX4_copyFrom_3 (by decide) ?_
      refine lv_icmp_ge (tgt := 25) hx hb dX4_copyFrom_4 (by decide) (fun c2 => absurd c2 (nI_ge (a := i) (b := 5) (by omega) (by omega))) (fun c2 => ?_)
      have c2 := z_lt c2
      refine lv_aload_n hx hb dX4_copyFrom_7 rfl (lv_at hl 0 rfl) ?_
      refine va_get (v := .ref (ad (11 + j))) hx hb hts inTX4 hown hK hP (3 + j) (bk_m (show j < 8 by omega)) rfl 0 (by decide) (hts _ qf_X4_9) (fun _ h9 => h9) (rfl) dX4_copyFrom_8 ?_
      refine lv_iload_n hx hb dX4_copyFrom_11 rfl (lv_at hl 2 rfl) ?_
      refine lv_aload_n hx hb dX4_copyFrom_12 rfl (lv_at hl 1 rfl) ?_
      refine va_get (v := .ref (ad2 (11 + j))) hx hb hts inTX4 hown hK hP (19 + (3 + j)) ((bk_r).trans (bk_m (show j < 8 by omega))) rfl 0 (by decide) (hts _ qf_X4_9) (fun _ h9 => h9) (rfl) dX4_copyFrom_13 ?_
      refine lv_iload_n hx hb dX4_copyFrom_16 rfl (lv_at hl 2 rfl) ?_
      refine va_iald hx hb hK hP (19 + (11 + j)) 0 ((bk_r).trans (bk_p (show j < 8 by omega))) rfl (vp_in_nI (show i < 5 by omega) (by omega)) dX4_copyFrom_17 ?_
      refine z_top (v2 := .int (z2 (25 + 16 * j + i))) (congrArg Value.int ((pfn_at rfl (show i < 5 by omega)).trans (rfl))) ?_
      refine z_iast (ws2 := bkW cI cM ad (upd (cpK z z2 j i) (25 + 16 * j + i) (z2 (25 + 16 * j + i))) (bkW cI cM ad2 z2 wr)) hx hb hK hP hD hS (11 + j) 0 (bk_p (show j < 8 by omega)) rfl (vp_in_nI (show i < 5 by omega) (by omega)) dX4_copyFrom_18 (z_ixw rfl (by omega) (fun q_ => (bkW cI cM ad (cpK z z2 j i) (bkW cI cM ad2 z2 wr)).set (11 + j) (ad (11 + j), .inl (cI, 5, .inl (upd (pfn (cpK z z2 j i) j) q_ (z2 (25 + 16 * j + i)))))) (bk_wp (show j < 8 by omega) (show i < 5 by omega))) (fun H locs hP hD hS => ?_)
      refine lv_iinc (v := nI (i + 1)) (lv' := [(2, .int (nI (i + 1))), (0, .ref (ad (3 + j))), (1, .ref (ad2 (3 + j)))]) hx hb dX4_copyFrom_19 hl (k := 2) rfl (nI_1 _) (by decide) rfl (fun ls hl => ?_)
      refine lv_goto (tgt := 2) hx hb dX4_copyFrom_22 (by decide) ?_
      have hP := va_P_eq (w2 := bkW cI cM ad (cpK z z2 j (i + 1)) (bkW cI cM ad2 z2 wr)) (congrArg (fun q_ => bkW cI cM ad q_ (bkW cI cM ad2 z2 wr)) cpK_s) hP
      have hD := va_D_eq (w2 := bkW cI cM ad (cpK z z2 j (i + 1)) (bkW cI cM ad2 z2 wr)) (congrArg (fun q_ => bkW cI cM ad q_ (bkW cI cM ad2 z2 wr)) cpK_s) hD
      exact ih2 (i + 1) (by omega) _ _ hP hD hS ls (lv_sub hl [1, 2, 0] rfl)
  have hl := (congrArg (fun q => lv_has ls 3 [(2, q), (0, .ref (ad (3 + j))), (1, .ref (ad2 (3 + j)))]) (show Value.int 0 = .int (nI 0) from congrArg Value.int (rfl))).mp hl
  have hP := va_P_eq (w2 := bkW cI cM ad (cpK z z2 j 0) (bkW cI cM ad2 z2 wr)) (congrArg (fun q_ => bkW cI cM ad q_ (bkW cI cM ad2 z2 wr)) cpK_0) hP
  have hD := va_D_eq (w2 := bkW cI cM ad (cpK z z2 j 0) (bkW cI cM ad2 z2 wr)) (congrArg (fun q_ => bkW cI cM ad q_ (bkW cI cM ad2 z2 wr)) cpK_0) hD
  exact K2 5 0 (by omega) _ _ hP hD hS ls (lv_sub hl [1, 2, 0] rfl)
set_option maxHeartbeats 4000000 in
set_option maxRecDepth 100000 in
theorem c_X0_copyFrom (hB : ∀ i : Nat, i < 8 → (z2 (14 + 16 * i) = 0 ∨ z2 (14 + 16 * i) = 1) ∧ (z2 (14 + 16 * i + 4) = 0 ∨ z2 (14 + 16 * i + 4) = 1)) : zM l D (zT cI cC cM cB cJ) yX0_copyFrom cX0_copyFrom 3 none ({ frames := 1, cells := 0, slots := 0, locals := 22 } : Room) [.ref (ad 0), .ref (ad2 0)] (bkW cI cM ad z (bkW cI cM ad2 z2 wr)) (bkW cI cM ad z2 (bkW cI cM ad2 z2 wr)) none 0 0 := by
  refine z_enter (by decide) (Nat.le_of_ble_eq_true rfl) ?_
  intro p e s m below meth c A S hr hlocks hnm hN hA hK hP hD hS ls hl
  obtain ⟨hx, hb, hml, hown, hts⟩ := id S
  have hl : lv_has ls 3 [(0, .ref (ad 0)), (1, .ref (ad2 0))] := hl
  have hP : va_P D vwCl (bkW cI cM ad z (bkW cI cM ad2 z2 wr)) s.heap := hP
  have hD : va_D A (bkW cI cM ad z (bkW cI cM ad2 z2 wr)) := hD
  refine lv_iconst (v := 0) hx hb dX0_copyFrom_0 (by decide) ?_
  refine lv_istore_n (lv' := [(2, .int 0), (0, .ref (ad 0)), (1, .ref (ad2 0))]) hx hb dX0_copyFrom_1 rfl hl (by decide) rfl (fun ls hl => ?_)
  have K2 : ∀ (n2 i : Nat), i + n2 = 8 → ∀ (H : Heap) (locs : List Loc), va_P D vwCl (bkW cI cM ad (cpI z z2 i) (bkW cI cM ad2 z2 wr)) H → va_D A (bkW cI cM ad (cpI z z2 i) (bkW cI cM ad2 z2 wr)) → va_S A s.heap H locs → ∀ ls : Array Slot, lv_has ls 3 [(0, .ref (ad 0)), (1, .ref (ad2 0)), (2, .int (nI i))] → W p l e ({ frames := 1, cells := 0, slots := 0, locals := 22 } : Room) s m ([.ref (ad 0), .ref (ad2 0)] : List Value).toArray below meth c H locs 0 0 (MQ below (zQ D (zT cI cC cM cB cJ) (bkW cI cM ad z2 (bkW cI cM ad2 z2 wr)) none A) ([.ref (ad 0), .ref (ad2 0)] : List Value).toArray s 0 0 A) (F0 m 2 ls []) := by
    intro n2
    induction n2 with
    | zero =>
      intro i hi H locs hP hD hS ls hl
      have ei : 8 = i := by omega
      subst ei
      refine lv_iload_n hx hb dX0_copyFrom_2 rfl (lv_at hl 2 rfl) ?_
      refine lv_bipush (v := 8) hx hb dX0_copyFrom_3 (by decide) ?_
      refine lv_icmp_ge (tgt := 29) hx hb dX0_copyFrom_5 (by decide) (fun c1 => ?_) (fun c1 => absurd (nI_le (a := 8) (b := 8) (by omega) (by omega)) c1)
      have c1 := z_nlt c1
      refine lv_iconst (v := 0) hx hb dX0_copyFrom_29 (by decide) ?_
      refine lv_istore_n (lv' := [(2, .int 0), (0, .ref (ad 0)), (1, .ref (ad2 0))]) hx hb dX0_copyFrom_30 rfl hl (by decide) rfl (fun ls hl => ?_)
      have K31 : ∀ (n31 i : Nat), i + n31 = 5 → ∀ (H : Heap) (locs : List Loc), va_P D vwCl (bkW cI cM ad (cpA z z2 i) (bkW cI cM ad2 z2 wr)) H → va_D A (bkW cI cM ad (cpA z z2 i) (bkW cI cM ad2 z2 wr)) → va_S A s.heap H locs → ∀ ls : Array Slot, lv_has ls 3 [(0, .ref (ad 0)), (1, .ref (ad2 0)), (2, .int (nI i))] → W p l e ({ frames := 1, cells := 0, slots := 0, locals := 22 } : Room) s m ([.ref (ad 0), .ref (ad2 0)] : List Value).toArray below meth c H locs 0 0 (MQ below (zQ D (zT cI cC cM cB cJ) (bkW cI cM ad z2 (bkW cI cM ad2 z2 wr)) none A) ([.ref (ad 0), .ref (ad2 0)] : List Value).toArray s 0 0 A) (F0 m 31 ls []) := by
        intro n31
        induction n31 with
        | zero =>
          intro i hi H locs hP hD hS ls hl
          have ei : 5 = i := by omega
          subst ei
          refine lv_iload_n hx hb dX0_copyFrom_31 rfl (lv_at hl 2 rfl) ?_
          refine lv_iconst (v := 5) hx hb dX0_copyFrom_32 (by decide) ?_
          refine lv_icmp_ge (tgt := 54) hx hb dX0_copyFrom_33 (by decide) (fun c2 => ?_) (fun c2 => absurd (nI_le (a := 5) (b := 5) (by omega) (by omega)) c2)
          have c2 := z_nlt c2
          refine lv_aload_n hx hb dX0_copyFrom_54 rfl (lv_at hl 0 rfl) ?_
          refine lv_aload_n hx hb dX0_copyFrom_55 rfl (lv_at hl 1 rfl) ?_
          refine va_get (v := .int (z2 5)) hx hb hts inTX0 hown hK hP (19) ((bk_r).trans (bk_0)) rfl 2 (by decide) (hts _ qf_X0_33) (fun _ h9 => h9) (rfl) dX0_copyFrom_56 ?_
          refine z_put (v := .int (z2 5)) (ty := .int) (ws2 := bkW cI cM ad (upd (cpA z z2 5) 5 (z2 5)) (bkW cI cM ad2 z2 wr)) hx hb hts inTX0 tyX0 tyX0_ok nmX0 hown hK hP hD hS (0) (bk_0) rfl 2 (by decide) (hts _ qf_X0_33) (fun _ h9 => h9) rfl (by decide +kernel) (rfl) (rfl) (Nat.le_of_ble_eq_true rfl) dX0_copyFrom_59 (bk_w0 _ (by decide) (by decide) bfs_s2) (fun H locs hP hD hS => ?_)
          refine lv_aload_n hx hb dX0_copyFrom_62 rfl (lv_at hl 0 rfl) ?_
          refine lv_aload_n hx hb dX0_copyFrom_63 rfl (lv_at hl 1 rfl) ?_
          refine va_get (v := .int (z2 6)) hx hb hts inTX0 hown hK hP (19) ((bk_r).trans (bk_0)) rfl 3 (by decide) (hts _ qf_X0_36) (fun _ h9 => h9) (rfl) dX0_copyFrom_64 ?_
          refine z_put (v := .int (z2 6)) (ty := .int) (ws2 := bkW cI cM ad (upd (upd (cpA z z2 5) 5 (z2 5)) 6 (z2 6)) (bkW cI cM ad2 z2 wr)) hx hb hts inTX0 tyX0 tyX0_ok nmX0 hown hK hP hD hS (0) (bk_0) rfl 3 (by decide) (hts _ qf_X0_36) (fun _ h9 => h9) rfl (by decide +kernel) (rfl) (rfl) (Nat.le_of_ble_eq_true rfl) dX0_copyFrom_67 (bk_w0 _ (by decide) (by decide) bfs_s3) (fun H locs hP hD hS => ?_)
          refine lv_aload_n hx hb dX0_copyFrom_70 rfl (lv_at hl 0 rfl) ?_
          refine lv_aload_n hx hb dX0_copyFrom_71 rfl (lv_at hl 1 rfl) ?_
          refine va_get (v := .int (z2 7)) hx hb hts inTX0 hown hK hP (19) ((bk_r).trans (bk_0)) rfl 4 (by decide) (hts _ qf_X0_39) (fun _ h9 => h9) (rfl) dX0_copyFrom_72 ?_
          refine z_put (v := .int (z2 7)) (ty := .int) (ws2 := bkW cI cM ad (upd (upd (upd (cpA z z2 5) 5 (z2 5)) 6 (z2 6)) 7 (z2 7)) (bkW cI cM ad2 z2 wr)) hx hb hts inTX0 tyX0 tyX0_ok nmX0 hown hK hP hD hS (0) (bk_0) rfl 4 (by decide) (hts _ qf_X0_39) (fun _ h9 => h9) rfl (by decide +kernel) (rfl) (rfl) (Nat.le_of_ble_eq_true rfl) dX0_copyFrom_75 (bk_w0 _ (by decide) (by decide) bfs_s4) (fun H locs hP hD hS => ?_)
          refine lv_aload_n hx hb dX0_copyFrom_78 rfl (lv_at hl 0 rfl) ?_
          refine lv_aload_n hx hb dX0_copyFrom_79 rfl (lv_at hl 1 rfl) ?_
          refine va_get (v := .int (z2 8)) hx hb hts inTX0 hown hK hP (19) ((bk_r).trans (bk_0)) rfl 5 (by decide) (hts _ qf_X0_42) (fun _ h9 => h9) (rfl) dX0_copyFrom_80 ?_
          refine z_put (v := .int (z2 8)) (ty := .int) (ws2 := bkW cI cM ad (upd (upd (upd (upd (cpA z z2 5) 5 (z2 5)) 6 (z2 6)) 7 (z2 7)) 8 (z2 8)) (bkW cI cM ad2 z2 wr)) hx hb hts inTX0 tyX0 tyX0_ok nmX0 hown hK hP hD hS (0) (bk_0) rfl 5 (by decide) (hts _ qf_X0_42) (fun _ h9 => h9) rfl (by decide +kernel) (rfl) (rfl) (Nat.le_of_ble_eq_true rfl) dX0_copyFrom_83 (bk_w0 _ (by decide) (by decide) bfs_s5) (fun H locs hP hD hS => ?_)
          refine lv_aload_n hx hb dX0_copyFrom_86 rfl (lv_at hl 0 rfl) ?_
          refine lv_aload_n hx hb dX0_copyFrom_87 rfl (lv_at hl 1 rfl) ?_
          refine va_get (v := .int (z2 9)) hx hb hts inTX0 hown hK hP (19) ((bk_r).trans (bk_0)) rfl 6 (by decide) (hts _ qf_X0_45) (fun _ h9 => h9) (rfl) dX0_copyFrom_88 ?_
          refine z_put (v := .int (z2 9)) (ty := .int) (ws2 := bkW cI cM ad (upd (upd (upd (upd (upd (cpA z z2 5) 5 (z2 5)) 6 (z2 6)) 7 (z2 7)) 8 (z2 8)) 9 (z2 9)) (bkW cI cM ad2 z2 wr)) hx hb hts inTX0 tyX0 tyX0_ok nmX0 hown hK hP hD hS (0) (bk_0) rfl 6 (by decide) (hts _ qf_X0_45) (fun _ h9 => h9) rfl (by decide +kernel) (rfl) (rfl) (Nat.le_of_ble_eq_true rfl) dX0_copyFrom_91 (bk_w0 _ (by decide) (by decide) bfs_s6) (fun H locs hP hD hS => ?_)
          refine lv_aload_n hx hb dX0_copyFrom_94 rfl (lv_at hl 0 rfl) ?_
          refine lv_aload_n hx hb dX0_copyFrom_95 rfl (lv_at hl 1 rfl) ?_
          refine va_get (v := .int (z2 10)) hx hb hts inTX0 hown hK hP (19) ((bk_r).trans (bk_0)) rfl 7 (by decide) (hts _ qf_X0_25) (fun _ h9 => h9) (rfl) dX0_copyFrom_96 ?_
          refine z_put (v := .int (z2 10)) (ty := .int) (ws2 := bkW cI cM ad (upd (upd (upd (upd (upd (upd (cpA z z2 5) 5 (z2 5)) 6 (z2 6)) 7 (z2 7)) 8 (z2 8)) 9 (z2 9)) 10 (z2 10)) (bkW cI cM ad2 z2 wr)) hx hb hts inTX0 tyX0 tyX0_ok nmX0 hown hK hP hD hS (0) (bk_0) rfl 7 (by decide) (hts _ qf_X0_25) (fun _ h9 => h9) rfl (by decide +kernel) (rfl) (rfl) (Nat.le_of_ble_eq_true rfl) dX0_copyFrom_99 (bk_w0 _ (by decide) (by decide) bfs_s7) (fun H locs hP hD hS => ?_)
          refine lv_aload_n hx hb dX0_copyFrom_102 rfl (lv_at hl 0 rfl) ?_
          refine lv_aload_n hx hb dX0_copyFrom_103 rfl (lv_at hl 1 rfl) ?_
          refine va_get (v := .int (z2 11)) hx hb hts inTX0 hown hK hP (19) ((bk_r).trans (bk_0)) rfl 8 (by decide) (hts _ qf_X0_48) (fun _ h9 => h9) (rfl) dX0_copyFrom_104 ?_
          refine z_put (v := .int (z2 11)) (ty := .int) (ws2 := bkW cI cM ad (upd (upd (upd (upd (upd (upd (upd (cpA z z2 5) 5 (z2 5)) 6 (z2 6)) 7 (z2 7)) 8 (z2 8)) 9 (z2 9)) 10 (z2 10)) 11 (z2 11)) (bkW cI cM ad2 z2 wr)) hx hb hts inTX0 tyX0 tyX0_ok nmX0 hown hK hP hD hS (0) (bk_0) rfl 8 (by decide) (hts _ qf_X0_48) (fun _ h9 => h9) rfl (by decide +kernel) (rfl) (rfl) (Nat.le_of_ble_eq_true rfl) dX0_copyFrom_107 (bk_w0 _ (by decide) (by decide) bfs_s8) (fun H locs hP hD hS => ?_)
          exact z_vret hx hb hr hlocks hP hD hK hS (cpB_eq) (rfl) dX0_copyFrom_110
        | succ n31 ih31 =>
          intro i hi H locs hP hD hS ls hl
          have li : i < 5 := by omega
          refine lv_iload_n hx hb dX0_copyFrom_31 rfl (lv_at hl 2 rfl) ?_
          refine lv_iconst (v := 5) hx hb dX0_copyFrom_32 (by decide) ?_
          refine lv_icmp_ge (tgt := 54) hx hb dX0_copyFrom_33 (by decide) (fun c3 => absurd c3 (nI_ge (a := i) (b := 5) (by omega) (by omega))) (fun c3 => ?_)
          have c3 := z_lt c3
          refine lv_aload_n hx hb dX0_copyFrom_36 rfl (lv_at hl 0 rfl) ?_
          refine va_get (v := .ref (ad 2)) hx hb hts inTX0 hown hK hP (0) (bk_0) rfl 1 (by decide) (hts _ qf_X0_18) (fun _ h9 => h9) (rfl) dX0_copyFrom_37 ?_
          refine lv_iload_n hx hb dX0_copyFrom_40 rfl (lv_at hl 2 rfl) ?_
          refine lv_aload_n hx hb dX0_copyFrom_41 rfl (lv_at hl 1 rfl) ?_
          refine va_get (v := .ref (ad2 2)) hx hb hts inTX0 hown hK hP (19) ((bk_r).trans (bk_0)) rfl 1 (by decide) (hts _ qf_X0_18) (fun _ h9 => h9) (rfl) dX0_copyFrom_42 ?_
          refine lv_iload_n hx hb dX0_copyFrom_45 rfl (lv_at hl 2 rfl) ?_
          refine va_iald hx hb hK hP (19 + (2)) 0 ((bk_r).trans (bk_2)) rfl (vp_in_nI (show i < 5 by omega) (by omega)) dX0_copyFrom_46 ?_
          refine z_top (v2 := .int (z2 i)) (congrArg Value.int ((sfn_at rfl (show i < 5 by omega)).trans (rfl))) ?_
          refine z_iast (ws2 := bkW cI cM ad (upd (cpA z z2 i) i (z2 i)) (bkW cI cM ad2 z2 wr)) hx hb hK hP hD hS (2) 0 (bk_2) rfl (vp_in_nI (show i < 5 by omega) (by omega)) dX0_copyFrom_47 (z_ixw rfl (by omega) (fun q_ => (bkW cI cM ad (cpA z z2 i) (bkW cI cM ad2 z2 wr)).set 2 (ad 2, .inl (cI, 5, .inl (upd (sfn (cpA z z2 i)) q_ (z2 i))))) (bk_w2 (show i < 5 by omega))) (fun H locs hP hD hS => ?_)
          refine lv_iinc (v := nI (i + 1)) (lv' := [(2, .int (nI (i + 1))), (0, .ref (ad 0)), (1, .ref (ad2 0))]) hx hb dX0_copyFrom_48 hl (k := 2) rfl (nI_1 _) (by decide) rfl (fun ls hl => ?_)
          refine lv_goto (tgt := 31) hx hb dX0_copyFrom_51 (by decide) ?_
          have hP := va_P_eq (w2 := bkW cI cM ad (cpA z z2 (i + 1)) (bkW cI cM ad2 z2 wr)) (congrArg (fun q_ => bkW cI cM ad q_ (bkW cI cM ad2 z2 wr)) cpA_s) hP
          have hD := va_D_eq (w2 := bkW cI cM ad (cpA z z2 (i + 1)) (bkW cI cM ad2 z2 wr)) (congrArg (fun q_ => bkW cI cM ad q_ (bkW cI cM ad2 z2 wr)) cpA_s) hD
          exact ih31 (i + 1) (by omega) _ _ hP hD hS ls (lv_sub hl [1, 2, 0] rfl)
      have hl := (congrArg (fun q => lv_has ls 3 [(2, q), (0, .ref (ad 0)), (1, .ref (ad2 0))]) (show Value.int 0 = .int (nI 0) from congrArg Value.int (rfl))).mp hl
      have hP := va_P_eq (w2 := bkW cI cM ad (cpA z z2 0) (bkW cI cM ad2 z2 wr)) ((congrArg (fun q_ => bkW cI cM ad q_ (bkW cI cM ad2 z2 wr)) cpA_0)) hP
      have hD := va_D_eq (w2 := bkW cI cM ad (cpA z z2 0) (bkW cI cM ad2 z2 wr)) ((congrArg (fun q_ => bkW cI cM ad q_ (bkW cI cM ad2 z2 wr)) cpA_0)) hD
      exact K31 5 0 (by omega) _ _ hP hD hS ls (lv_sub hl [1, 2, 0] rfl)
    | succ n2 ih2 =>
      intro i hi H locs hP hD hS ls hl
      have li : i < 8 := by omega
      refine lv_iload_n hx hb dX0_copyFrom_2 rfl (lv_at hl 2 rfl) ?_
      refine lv_bipush (v := 8) hx hb dX0_copyFrom_3 (by decide) ?_
      refine lv_icmp_ge (tgt := 29) hx hb dX0_copyFrom_5 (by decide) (fun c4 => absurd c4 (nI_ge (a := i) (b := 8) (by omega) (by omega))) (fun c4 => ?_)
      have c4 := z_lt c4
      refine lv_aload_n hx hb dX0_copyFrom_8 rfl (lv_at hl 0 rfl) ?_
      refine va_get (v := .ref (ad 1)) hx hb hts inTX0 hown hK hP (0) (bk_0) rfl 0 (by decide) (hts _ qf_X0_11) (fun _ h9 => h9) (rfl) dX0_copyFrom_9 ?_
      refine lv_iload_n hx hb dX0_copyFrom_12 rfl (lv_at hl 2 rfl) ?_
      refine va_aldq hx hb hK hP (1) 2 (bk_1) rfl (vp_in_nI (show i < 8 by omega) (by omega)) dX0_copyFrom_13 ?_
      refine z_top (v2 := .ref (ad (3 + i))) (z_rf rfl) ?_
      refine lv_aload_n hx hb dX0_copyFrom_14 rfl (lv_at hl 1 rfl) ?_
      refine va_get (v := .ref (ad2 1)) hx hb hts inTX0 hown hK hP (19) ((bk_r).trans (bk_0)) rfl 0 (by decide) (hts _ qf_X0_11) (fun _ h9 => h9) (rfl) dX0_copyFrom_15 ?_
      refine lv_iload_n hx hb dX0_copyFrom_18 rfl (lv_at hl 2 rfl) ?_
      refine va_aldq hx hb hK hP (19 + (1)) 2 ((bk_r).trans (bk_1)) rfl (vp_in_nI (show i < 8 by omega) (by omega)) dX0_copyFrom_19 ?_
      refine z_top (v2 := .ref (ad2 (3 + i))) (z_rf rfl) ?_
      refine z_callV0 (rest := []) S (c_X4_copyFrom i (show i < 8 by omega) hB) qm_X0_29 v_X4_copyFrom ⟨Nat.le_of_ble_eq_true rfl, Nat.le_of_ble_eq_true rfl⟩ rfl rfl hN hK hP hD hS hA (3 + i) (bk_m (show i < 8 by omega)) rfl rfl hl.1 rfl (Nat.le_of_ble_eq_true rfl) dX0_copyFrom_20 ⟨Nat.le_of_ble_eq_true rfl, Nat.le_of_ble_eq_true rfl⟩ (fun H locs hP hD hS => ?_)
      refine lv_iinc (v := nI (i + 1)) (lv' := [(2, .int (nI (i + 1))), (0, .ref (ad 0)), (1, .ref (ad2 0))]) hx hb dX0_copyFrom_23 hl (k := 2) rfl (nI_1 _) (by decide) rfl (fun ls hl => ?_)
      refine lv_goto (tgt := 2) hx hb dX0_copyFrom_26 (by decide) ?_
      have hP := va_P_eq (w2 := bkW cI cM ad (cpI z z2 (i + 1)) (bkW cI cM ad2 z2 wr)) (congrArg (fun q_ => bkW cI cM ad q_ (bkW cI cM ad2 z2 wr)) cpI_s) hP
      have hD := va_D_eq (w2 := bkW cI cM ad (cpI z z2 (i + 1)) (bkW cI cM ad2 z2 wr)) (congrArg (fun q_ => bkW cI cM ad q_ (bkW cI cM ad2 z2 wr)) cpI_s) hD
      exact ih2 (i + 1) (by omega) _ _ hP hD hS ls (lv_sub hl [1, 2, 0] rfl)
  have hl := (congrArg (fun q => lv_has ls 3 [(2, q), (0, .ref (ad 0)), (1, .ref (ad2 0))]) (show Value.int 0 = .int (nI 0) from congrArg Value.int (rfl))).mp hl
  have hP := va_P_eq (w2 := bkW cI cM ad (cpI z z2 0) (bkW cI cM ad2 z2 wr)) (congrArg (fun q_ => bkW cI cM ad q_ (bkW cI cM ad2 z2 wr)) cpI_0) hP
  have hD := va_D_eq (w2 := bkW cI cM ad (cpI z z2 0) (bkW cI cM ad2 z2 wr)) (congrArg (fun q_ => bkW cI cM ad q_ (bkW cI cM ad2 z2 wr)) cpI_0) hD
  exact K2 8 0 (by omega) _ _ hP hD hS ls (lv_sub hl [1, 2, 0] rfl)
end XB
