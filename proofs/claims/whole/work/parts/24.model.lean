/-! What the reference's calls answer. -/
theorem updB_x {z : Nat → Int32} {k : Nat} {v : Int32} (h : hBool z) (hk : ∀ i : Nat, i < 8 → k ≠ 14 + 16 * i ∧ k ≠ 14 + 16 * i + 4) : hBool (upd z k v) := by
  intro i hi
  rw [upd_ne (fun q => (hk i hi).1 q.symm), upd_ne (fun q => (hk i hi).2 q.symm)]
  exact h i hi
theorem updB_0 {z : Nat → Int32} {k : Nat} {v : Int32} (h : hBool z) (hv : v = 0 ∨ v = 1) : hBool (upd z k v) := by
  intro i hi
  constructor
  · by_cases e : 14 + 16 * i = k
    · rw [upd_eq e]; exact hv
    · rw [upd_ne e]; exact (h i hi).1
  · by_cases e : 14 + 16 * i + 4 = k
    · rw [upd_eq e]; exact hv
    · rw [upd_ne e]; exact (h i hi).2
theorem w11_nat {x : Int32} (h : ¬ (x < 0) ∧ ¬ (11 < x)) : ∃ j : Nat, j < 12 ∧ x = nI j := by
  obtain ⟨j, hj, rfl⟩ := nI_of h.1
  refine ⟨j, ?_, rfl⟩
  rcases Nat.lt_or_ge j 12 with q | q
  · exact q
  · exact absurd ((nI_ltI (a := 11) (b := j) (by omega) hj).mpr (by omega)) h.2
theorem cd_alw {z : Nat → Int32} {n g t k : Nat} {mn : Int32} (h1 : mP (nI g) n) (h2 : mP (nI t) n) (h3 : ¬ (nI g = nI t)) : cdP z g t k mn ↔ alwP z n g t k mn :=
  ⟨fun q => ⟨h1, h2, ⟨q.2.1, q.2.2.1⟩, q.2.2.2⟩, fun q => ⟨h3, q.2.2.1.1, q.2.2.1.2, q.2.2.2⟩⟩
theorem lt8_of {n : Nat} (hn : n ≤ 8) (h : ¬ (nI n = 8)) : n < 8 := by
  rcases Nat.lt_or_ge n 8 with q | q
  · exact q
  · have : n = 8 := by omega
    subst this; exact absurd rfl h
def qz_join (z : Nat → Int32) (n : Nat) : Nat → Int32 := upd (upd (upd (upd (upd z 5 (nI (n + 1))) (14 + 16 * n) 1) (14 + 16 * n + 1) (z 1)) (14 + 16 * n + 2) (z 1)) 6 ((z 6) - (z 1))
def qz_out (z : Nat → Int32) (j : Nat) : Nat → Int32 := upd (upd (upd (upd (upd (upd z 6 ((z 6) + (z (14 + 16 * j + 1)))) (14 + 16 * j) 0) (14 + 16 * j + 1) 0) (14 + 16 * j + 2) 0) 12 ((z 12) &&& ((1 <<< ((nI j) &&& 31)) ^^^ (-1)))) 13 ((z 13) &&& ((1 <<< ((nI j) &&& 31)) ^^^ (-1)))
def qz_leave (z : Nat → Int32) (n j d : Nat) : Nat → Int32 := if nI d = nI j then endZ (qz_out z j) else lkZ (qz_out z j) n d
def qz_pay (z : Nat → Int32) (j : Nat) (mn : Int32) : Nat → Int32 := upd (upd z (14 + 16 * j + 1) ((z (14 + 16 * j + 1)) + (-mn))) 6 ((z 6) + mn)
def qz_vote (z : Nat → Int32) (j : Nat) (bf : Int32) : Nat → Int32 := if bf = 0 then upd z 13 ((z 13) ||| (1 <<< ((nI j) &&& 31))) else upd z 12 ((z 12) ||| (1 <<< ((nI j) &&& 31)))
theorem lt60_of {n : Nat} (hn : n ≤ 60) (h : ¬ (nI n = 60)) : n < 60 := by
  rcases Nat.lt_or_ge n 60 with q | q
  · exact q
  · have : n = 60 := by omega
    subst this; exact absurd rfl h
def unR (z hi : Nat → Int32) (s i : Nat) : Nat → Int32 := fun q => if q < i then hi (142 * s + q) else z q
theorem unR_0 {z hi : Nat → Int32} {s : Nat} : unR z hi s 0 = z := by funext q; exact if_neg (by omega)
theorem unR_s {z hi : Nat → Int32} {s i : Nat} : upd (unR z hi s i) i (hi (142 * s + i)) = unR z hi s (i + 1) := by
  funext q
  by_cases e : q = i
  · subst e; rw [upd_eq rfl]; exact (if_pos (by omega)).symm
  · rw [upd_ne e]; unfold unR
    by_cases h : q < i
    · rw [if_pos h, if_pos (by omega)]
    · rw [if_neg h, if_neg (by omega)]
def kUndoM (u : Nat) : Int32 := if 0 < nI u then 0 else 1

section XB
variable {l : Launch} {D : va_G} {cI cC cM cB cJ : ClassId} {q : Nat → Nat} {z hi tx pa ke mr : Nat → Int32} {hs : Int64} {wr : va_W}
set_option maxHeartbeats 4000000 in
set_option maxRecDepth 100000 in
theorem c_X6_join {n : Nat} (hn : n ≤ 8) (hz : z 5 = nI n) {u : Nat} (hu : u ≤ 6) (hm : mr 0 = nI u) (hB : hBool z) : zM l D (zT cI cC cM cB cJ) yX6_join cX6_join 2 (some .int) ({ frames := 1, cells := 0, slots := 0, locals := 23 } : Room) [.ref (q 0)] (moW cI q z hi tx pa ke mr hs wr) (xwf (kJoin n) (moW cI q (qz_join z n) (svH hi z u) tx pa ke (upd (upd mr 2 0) 0 (nI (min (u + 1) 6))) hs wr) (fun k_ => moW cI q z hi tx pa ke (upd mr 2 k_) hs wr)) (some (.int (xv (kJoin n) (nI n)))) 0 0 := by
  refine z_enter (by decide) (Nat.le_of_ble_eq_true rfl) ?_
  intro p e s m below meth c A S hr hlocks hnm hN hA hK hP hD hS ls hl
  obtain ⟨hx, hb, hml, hown, hts⟩ := id S
  have hl : lv_has ls 2 [(0, .ref (q 0))] := hl
  have hP : va_P D vwCl (moW cI q z hi tx pa ke mr hs wr) s.heap := hP
  have hD : va_D A (moW cI q z hi tx pa ke mr hs wr) := hD
  refine lv_aload_n hx hb dX6_join_0 rfl (lv_at hl 0 rfl) ?_
  refine lv_aload_n hx hb dX6_join_1 rfl (lv_at hl 0 rfl) ?_
  refine va_get (v := .ref (q 1)) hx hb hts inTX6 hown hK hP (0) (mo_0) rfl 0 (by decide) (hts _ qf_X6_7) (fun _ h9 => h9) (rfl) dX6_join_2 ?_
  refine lv_iconst (v := 5) hx hb dX6_join_5 (by decide) ?_
  refine va_iald hx hb hK hP (1) 0 (mo_1) rfl (vp_in_nI (show 5 < 142 by decide) (by omega)) dX6_join_6 ?_
  refine z_top (v2 := .int (nI n)) (congrArg Value.int (((congrArg (zfn z) (z_cl (k := 5) rfl)).trans (zfn_at (by omega))).trans (hz))) ?_
  refine lv_bipush (v := 8) hx hb dX6_join_7 (by decide) ?_
  refine lv_icmp_ne (tgt := 16) hx hb dX6_join_9 (by decide) (fun c1 => ?_) (fun c1 => ?_)
  · skip
    refine lv_iconst (v := 0) hx hb dX6_join_16 (by decide) ?_
    refine z_put (v := .int 0) (ty := .int) (ws2 := moW cI q z hi tx pa ke (upd mr 2 0) hs wr) hx hb hts inTX6 tyX6 tyX6_ok nmX6 hown hK hP hD hS (0) (mo_0) rfl 5 (by decide) (hts _ qf_X6_25) (fun _ h9 => h9) rfl (by decide +kernel) (rfl) (rfl) (Nat.le_of_ble_eq_true rfl) dX6_join_17 (mo_w0 _ mfl_s2) (fun H locs hP hD hS => ?_)
    refine lv_aload_n hx hb dX6_join_20 rfl (lv_at hl 0 rfl) ?_
    refine va_get (v := .int 0) hx hb hts inTX6 hown hK hP (0) (mo_0) rfl 5 (by decide) (hts _ qf_X6_25) (fun _ h9 => h9) (congrArg (fun x => some (Value.int x)) (upd_eq rfl)) dX6_join_21 ?_
    have hn8 : n < 8 := lt8_of hn c1
    refine lv_if_le (tgt := 29) hx hb dX6_join_24 (by decide) (fun c2 => ?_) (fun c2 => absurd (by decide) c2)
    have c2 := z_nlt c2
    refine lv_aload_n hx hb dX6_join_29 rfl (lv_at hl 0 rfl) ?_
    refine z_callV0 (rest := []) S (c_X6_save (u := u) (by omega) ((upd_ne (by omega)).trans (hm))) qm_X6_58 v_X6_save ⟨Nat.le_of_ble_eq_true rfl, Nat.le_of_ble_eq_true rfl⟩ rfl rfl hN hK hP hD hS hA (0) (mo_0) rfl rfl hl.1 rfl (Nat.le_of_ble_eq_true rfl) dX6_join_30 ⟨Nat.le_of_ble_eq_true rfl, Nat.le_of_ble_eq_true rfl⟩ (fun H locs hP hD hS => ?_)
    refine lv_aload_n hx hb dX6_join_33 rfl (lv_at hl 0 rfl) ?_
    refine va_get (v := .ref (q 1)) hx hb hts inTX6 hown hK hP (0) (mo_0) rfl 0 (by decide) (hts _ qf_X6_7) (fun _ h9 => h9) (rfl) dX6_join_34 ?_
    refine lv_iconst (v := 5) hx hb dX6_join_37 (by decide) ?_
    refine va_iald hx hb hK hP (1) 0 (mo_1) rfl (vp_in_nI (show 5 < 142 by decide) (by omega)) dX6_join_38 ?_
    refine z_top (v2 := .int (nI n)) (congrArg Value.int (((congrArg (zfn z) (z_cl (k := 5) rfl)).trans (zfn_at (by omega))).trans (hz))) ?_
    refine lv_istore_n (lv' := [(1, .int (nI n)), (0, .ref (q 0))]) hx hb dX6_join_39 rfl hl (by decide) rfl (fun ls hl => ?_)
    refine lv_aload_n hx hb dX6_join_40 rfl (lv_at hl 1 rfl) ?_
    refine va_get (v := .ref (q 1)) hx hb hts inTX6 hown hK hP (0) (mo_0) rfl 0 (by decide) (hts _ qf_X6_7) (fun _ h9 => h9) (rfl) dX6_join_41 ?_
    refine lv_iconst (v := 5) hx hb dX6_join_44 (by decide) ?_
    refine lv_dup2_11 hx hb dX6_join_45 rfl rfl ?_
    refine va_iald hx hb hK hP (1) 0 (mo_1) rfl (vp_in_nI (show 5 < 142 by decide) (by omega)) dX6_join_46 ?_
    refine z_top (v2 := .int (nI n)) (congrArg Value.int (((congrArg (zfn z) (z_cl (k := 5) rfl)).trans (zfn_at (by omega))).trans (hz))) ?_
    refine lv_iconst (v := 1) hx hb dX6_join_47 (by decide) ?_
    refine lv_iadd hx hb dX6_join_48  ?_
    refine z_top (v2 := .int (nI (n + 1))) (congrArg Value.int (nI_add n 1)) ?_
    refine z_iast (ws2 := moW cI q (upd z 5 (nI (n + 1))) (svH hi z u) tx pa ke (upd (upd mr 2 0) 0 (nI (min (u + 1) 6))) hs wr) hx hb hK hP hD hS (1) 0 (mo_1) rfl (vp_in_nI (show 5 < 142 by decide) (by omega)) dX6_join_49 (mo_w1 (z_cl (k := 5) rfl) (by omega)) (fun H locs hP hD hS => ?_)
    refine lv_aload_n hx hb dX6_join_50 rfl (lv_at hl 1 rfl) ?_
    refine lv_iload_n hx hb dX6_join_51 rfl (lv_at hl 0 rfl) ?_
    refine lv_iconst (v := 0) hx hb dX6_join_52 (by decide) ?_
    refine lv_iconst (v := 1) hx hb dX6_join_53 (by decide) ?_
    refine z_callV0 (rest := []) S (c_X6_put n 0 (14 + 16 * n) (show n < 8 by omega) (show 0 < 16 by decide) (by omega) 1) qm_X6_61 v_X6_put ⟨Nat.le_of_ble_eq_true rfl, Nat.le_of_ble_eq_true rfl⟩ rfl rfl hN hK hP hD hS hA (0) (mo_0) rfl rfl hl.1 rfl (Nat.le_of_ble_eq_true rfl) dX6_join_54 ⟨Nat.le_of_ble_eq_true rfl, Nat.le_of_ble_eq_true rfl⟩ (fun H locs hP hD hS => ?_)
    refine lv_aload_n hx hb dX6_join_57 rfl (lv_at hl 1 rfl) ?_
    refine lv_iload_n hx hb dX6_join_58 rfl (lv_at hl 0 rfl) ?_
    refine lv_iconst (v := 1) hx hb dX6_join_59 (by decide) ?_
    refine lv_aload_n hx hb dX6_join_60 rfl (lv_at hl 1 rfl) ?_
    refine va_get (v := .ref (q 1)) hx hb hts inTX6 hown hK hP (0) (mo_0) rfl 0 (by decide) (hts _ qf_X6_7) (fun _ h9 => h9) (rfl) dX6_join_61 ?_
    refine lv_iconst (v := 1) hx hb dX6_join_64 (by decide) ?_
    refine va_iald hx hb hK hP (1) 0 (mo_1) rfl (vp_in_nI (show 1 < 142 by decide) (by omega)) dX6_join_65 ?_
    refine z_top (v2 := .int (z 1)) (congrArg Value.int (((congrArg (zfn (upd (upd z 5 (nI (n + 1))) (14 + 16 * n) 1)) (z_cl (k := 1) rfl)).trans (zfn_at (by omega))).trans ((upd_ne (by omega)).trans ((upd_ne (by omega)).trans (rfl))))) ?_
    refine z_callV0 (rest := []) S (c_X6_put n 1 (14 + 16 * n + 1) (show n < 8 by omega) (show 1 < 16 by decide) (by omega) (z 1)) qm_X6_61 v_X6_put ⟨Nat.le_of_ble_eq_true rfl, Nat.le_of_ble_eq_true rfl⟩ rfl rfl hN hK hP hD hS hA (0) (mo_0) rfl rfl hl.1 rfl (Nat.le_of_ble_eq_true rfl) dX6_join_66 ⟨Nat.le_of_ble_eq_true rfl, Nat.le_of_ble_eq_true rfl⟩ (fun H locs hP hD hS => ?_)
    refine lv_aload_n hx hb dX6_join_69 rfl (lv_at hl 1 rfl) ?_
    refine lv_iload_n hx hb dX6_join_70 rfl (lv_at hl 0 rfl) ?_
    refine lv_iconst (v := 2) hx hb dX6_join_71 (by decide) ?_
    refine lv_aload_n hx hb dX6_join_72 rfl (lv_at hl 1 rfl) ?_
    refine va_get (v := .ref (q 1)) hx hb hts inTX6 hown hK hP (0) (mo_0) rfl 0 (by decide) (hts _ qf_X6_7) (fun _ h9 => h9) (rfl) dX6_join_73 ?_
    refine lv_iconst (v := 1) hx hb dX6_join_76 (by decide) ?_
    refine va_iald hx hb hK hP (1) 0 (mo_1) rfl (vp_in_nI (show 1 < 142 by decide) (by omega)) dX6_join_77 ?_
    refine z_top (v2 := .int (z 1)) (congrArg Value.int (((congrArg (zfn (upd (upd (upd z 5 (nI (n + 1))) (14 + 16 * n) 1) (14 + 16 * n + 1) (z 1))) (z_cl (k := 1) rfl)).trans (zfn_at (by omega))).trans ((upd_ne (by omega)).trans ((upd_ne (by omega)).trans ((upd_ne (by omega)).trans (rfl)))))) ?_
    refine z_callV0 (rest := []) S (c_X6_put n 2 (14 + 16 * n + 2) (show n < 8 by omega) (show 2 < 16 by decide) (by omega) (z 1)) qm_X6_61 v_X6_put ⟨Nat.le_of_ble_eq_true rfl, Nat.le_of_ble_eq_true rfl⟩ rfl rfl hN hK hP hD hS hA (0) (mo_0) rfl rfl hl.1 rfl (Nat.le_of_ble_eq_true rfl) dX6_join_78 ⟨Nat.le_of_ble_eq_true rfl, Nat.le_of_ble_eq_true rfl⟩ (fun H locs hP hD hS => ?_)
    refine lv_aload_n hx hb dX6_join_81 rfl (lv_at hl 1 rfl) ?_
    refine va_get (v := .ref (q 1)) hx hb hts inTX6 hown hK hP (0) (mo_0) rfl 0 (by decide) (hts _ qf_X6_7) (fun _ h9 => h9) (rfl) dX6_join_82 ?_
    refine lv_bipush (v := 6) hx hb dX6_join_85 (by decide) ?_
    refine lv_dup2_11 hx hb dX6_join_87 rfl rfl ?_
    refine va_iald hx hb hK hP (1) 0 (mo_1) rfl (vp_in_nI (show 6 < 142 by decide) (by omega)) dX6_join_88 ?_
    refine z_top (v2 := .int (z 6)) (congrArg Value.int (((congrArg (zfn (upd (upd (upd (upd z 5 (nI (n + 1))) (14 + 16 * n) 1) (14 + 16 * n + 1) (z 1)) (14 + 16 * n + 2) (z 1))) (z_cl (k := 6) rfl)).trans (zfn_at (by omega))).trans ((upd_ne (by omega)).trans ((upd_ne (by omega)).trans ((upd_ne (by omega)).trans ((upd_ne (by omega)).trans (rfl))))))) ?_
    refine lv_aload_n hx hb dX6_join_89 rfl (lv_at hl 1 rfl) ?_
    refine va_get (v := .ref (q 1)) hx hb hts inTX6 hown hK hP (0) (mo_0) rfl 0 (by decide) (hts _ qf_X6_7) (fun _ h9 => h9) (rfl) dX6_join_90 ?_
    refine lv_iconst (v := 1) hx hb dX6_join_93 (by decide) ?_
    refine va_iald hx hb hK hP (1) 0 (mo_1) rfl (vp_in_nI (show 1 < 142 by decide) (by omega)) dX6_join_94 ?_
    refine z_top (v2 := .int (z 1)) (congrArg Value.int (((congrArg (zfn (upd (upd (upd (upd z 5 (nI (n + 1))) (14 + 16 * n) 1) (14 + 16 * n + 1) (z 1)) (14 + 16 * n + 2) (z 1))) (z_cl (k := 1) rfl)).trans (zfn_at (by omega))).trans ((upd_ne (by omega)).trans ((upd_ne (by omega)).trans ((upd_ne (by omega)).trans ((upd_ne (by omega)).trans (rfl))))))) ?_
    refine lv_isub hx hb dX6_join_95  ?_
    refine z_iast (ws2 := moW cI q (upd (upd (upd (upd (upd z 5 (nI (n + 1))) (14 + 16 * n) 1) (14 + 16 * n + 1) (z 1)) (14 + 16 * n + 2) (z 1)) 6 ((z 6) - (z 1))) (svH hi z u) tx pa ke (upd (upd mr 2 0) 0 (nI (min (u + 1) 6))) hs wr) hx hb hK hP hD hS (1) 0 (mo_1) rfl (vp_in_nI (show 6 < 142 by decide) (by omega)) dX6_join_96 (mo_w1 (z_cl (k := 6) rfl) (by omega)) (fun H locs hP hD hS => ?_)
    refine lv_iload_n hx hb dX6_join_97 rfl (lv_at hl 0 rfl) ?_
    exact z_iret hx hb hr hlocks hP hD hK hS (Eq.trans (b := moW cI q (qz_join z n) (svH hi z u) tx pa ke (upd (upd mr 2 0) 0 (nI (min (u + 1) 6))) hs wr) (rfl) (Eq.symm (xwf_0 (K := kJoin n) (by rw [kJoin, if_pos (show nI n < 8 from nI_lt (a := n) (b := 8) (lt8_of hn c1) (by omega))])))) (congrArg (fun y_ => some (Value.int y_)) (Eq.trans (b := nI n) (rfl) (Eq.symm (xv_0 (K := kJoin n) (by rw [kJoin, if_pos (show nI n < 8 from nI_lt (a := n) (b := 8) (lt8_of hn c1) (by omega))]))))) dX6_join_98
  · skip
    refine lv_iconst (v := 1) hx hb dX6_join_12 (by decide) ?_
    refine lv_goto (tgt := 17) hx hb dX6_join_13 (by decide) ?_
    refine z_put (v := .int 1) (ty := .int) (ws2 := moW cI q z hi tx pa ke (upd mr 2 1) hs wr) hx hb hts inTX6 tyX6 tyX6_ok nmX6 hown hK hP hD hS (0) (mo_0) rfl 5 (by decide) (hts _ qf_X6_25) (fun _ h9 => h9) rfl (by decide +kernel) (rfl) (rfl) (Nat.le_of_ble_eq_true rfl) dX6_join_17 (mo_w0 _ mfl_s2) (fun H locs hP hD hS => ?_)
    refine lv_aload_n hx hb dX6_join_20 rfl (lv_at hl 0 rfl) ?_
    refine va_get (v := .int 1) hx hb hts inTX6 hown hK hP (0) (mo_0) rfl 5 (by decide) (hts _ qf_X6_25) (fun _ h9 => h9) (congrArg (fun x => some (Value.int x)) (upd_eq rfl)) dX6_join_21 ?_
    refine lv_if_le (tgt := 29) hx hb dX6_join_24 (by decide) (fun c3 => absurd c3 (by decide)) (fun c3 => ?_)
    have c3 := z_lt c3
    refine lv_iconst (v := 0) hx hb dX6_join_27 (by decide) ?_
    exact z_iret hx hb hr hlocks hP hD hK hS (Eq.symm (xwf_n (K := kJoin n) (k := 1) (by rw [kJoin, if_neg (by rw [c1]; decide)]) (by decide))) (congrArg (fun y_ => some (Value.int y_)) (Eq.symm (xv_n (K := kJoin n) (k := 1) (by rw [kJoin, if_neg (by rw [c1]; decide)]) (by decide)))) dX6_join_28
set_option maxHeartbeats 4000000 in
set_option maxRecDepth 100000 in
theorem c_X6_leave_a {n : Nat} (hn : n ≤ 8) (hz : z 5 = nI n) {u : Nat} (hu : u ≤ 6) (hm : mr 0 = nI u) (hB : hBool z) (hz2 : z 10 = -1) (mb : Int32) : zM l D (zT cI cC cM cB cJ) yX6_leave cX6_leave 4 (some .int) ({ frames := 4, cells := 0, slots := 0, locals := 87 } : Room) [.ref (q 0), .int mb] (moW cI q z hi tx pa ke mr hs wr) (xwf (kLeave z n mb) (moW cI q (qz_out z (cl mb)) (svH hi z u) tx pa ke (upd (upd mr 2 0) 0 (nI (min (u + 1) 6))) hs wr) (fun k_ => moW cI q z hi tx pa ke (upd mr 2 k_) hs wr)) (some (.int (xv (kLeave z n mb) (z (14 + 16 * cl mb + 1))))) 0 0 := by
  refine z_enter (by decide) (Nat.le_of_ble_eq_true rfl) ?_
  intro p e s m below meth c A S hr hlocks hnm hN hA hK hP hD hS ls hl
  obtain ⟨hx, hb, hml, hown, hts⟩ := id S
  have hl : lv_has ls 4 [(0, .ref (q 0)), (1, .int mb)] := hl
  have hP : va_P D vwCl (moW cI q z hi tx pa ke mr hs wr) s.heap := hP
  have hD : va_D A (moW cI q z hi tx pa ke mr hs wr) := hD
  refine lv_aload_n hx hb dX6_leave_0 rfl (lv_at hl 0 rfl) ?_
  refine lv_aload_n hx hb dX6_leave_1 rfl (lv_at hl 0 rfl) ?_
  refine lv_iload_n hx hb dX6_leave_2 rfl (lv_at hl 1 rfl) ?_
  refine z_callV1 (rest := [.ref (q 0)]) S (c_X6_isMember (n := n) (show n ≤ 8 by omega) (hz) mb) qm_X6_64 v_X6_isMember ⟨Nat.le_of_ble_eq_true rfl, Nat.le_of_ble_eq_true rfl⟩ rfl rfl hN hK hP hD hS hA (0) (mo_0) rfl rfl hl.1 rfl (Nat.le_of_ble_eq_true rfl) dX6_leave_3 ⟨Nat.le_of_ble_eq_true rfl, Nat.le_of_ble_eq_true rfl⟩ (fun H locs hP hD hS => ?_)
  refine lv_if_ne (tgt := 13) hx hb dX6_leave_6 (by decide) (fun c1 => ?_) (fun c1 => ?_)
  · have c1 := bI_1 c1
    obtain ⟨j, hj, rfl⟩ := mem_nat hn c1
    refine lv_aload_n hx hb dX6_leave_13 rfl (lv_at hl 0 rfl) ?_
    refine lv_iload_n hx hb dX6_leave_14 rfl (lv_at hl 1 rfl) ?_
    refine z_callV1 (rest := [.ref (q 0)]) S (c_X6_isThere j (show j < 8 by omega) ((hB) j (show j < 8 by omega)).1) qm_X6_68 v_X6_isThere ⟨Nat.le_of_ble_eq_true rfl, Nat.le_of_ble_eq_true rfl⟩ rfl rfl hN hK hP hD hS hA (0) (mo_0) rfl rfl hl.1 rfl (Nat.le_of_ble_eq_true rfl) dX6_leave_15 ⟨Nat.le_of_ble_eq_true rfl, Nat.le_of_ble_eq_true rfl⟩ (fun H locs hP hD hS => ?_)
    refine lv_if_eq (tgt := 34) hx hb dX6_leave_18 (by decide) (fun c2 => ?_) (fun c2 => ?_)
    · have c2 := bI_0n c2
      refine lv_iconst (v := 2) hx hb dX6_leave_34 (by decide) ?_
      refine z_put (v := .int 2) (ty := .int) (ws2 := moW cI q z hi tx pa ke (upd mr 2 2) hs wr) hx hb hts inTX6 tyX6 tyX6_ok nmX6 hown hK hP hD hS (0) (mo_0) rfl 5 (by decide) (hts _ qf_X6_25) (fun _ h9 => h9) rfl (by decide +kernel) (rfl) (rfl) (Nat.le_of_ble_eq_true rfl) dX6_leave_35 (mo_w0 _ mfl_s2) (fun H locs hP hD hS => ?_)
      refine lv_aload_n hx hb dX6_leave_38 rfl (lv_at hl 0 rfl) ?_
      refine va_get (v := .int 2) hx hb hts inTX6 hown hK hP (0) (mo_0) rfl 5 (by decide) (hts _ qf_X6_25) (fun _ h9 => h9) (congrArg (fun x => some (Value.int x)) (upd_eq rfl)) dX6_leave_39 ?_
      refine lv_if_le (tgt := 47) hx hb dX6_leave_42 (by decide) (fun c3 => absurd c3 (by decide)) (fun c3 => ?_)
      have c3 := z_lt c3
      refine lv_iconst (v := 0) hx hb dX6_leave_45 (by decide) ?_
      exact z_iret hx hb hr hlocks hP hD hK hS (Eq.symm (xwf_n (K := kLeave z n (nI j)) (k := 2) (by first | (simp only [kLeave, mP, sP, inP, cl, alwP, alwM, cvP, c1, nI_clamp (show j < 2 ^ 31 by omega), c2, c3, not_true_eq_false, not_false_eq_true, and_self, and_true, true_and, and_false, false_and, or_true, true_or, or_false, false_or, if_true, if_false, ite_true, ite_false]; done) | (simp [kLeave, mP, sP, inP, cl, alwP, alwM, cvP, c1, nI_clamp (show j < 2 ^ 31 by omega), c2, c3]; done) | (simp_all [kLeave, mP, sP, inP, cl, alwP, alwM, cvP]; done)) (by decide))) (congrArg (fun y_ => some (Value.int y_)) (Eq.symm (xv_n (K := kLeave z n (nI j)) (k := 2) (by first | (simp only [kLeave, mP, sP, inP, cl, alwP, alwM, cvP, c1, nI_clamp (show j < 2 ^ 31 by omega), c2, c3, not_true_eq_false, not_false_eq_true, and_self, and_true, true_and, and_false, false_and, or_true, true_or, or_false, false_or, if_true, if_false, ite_true, ite_false]; done) | (simp [kLeave, mP, sP, inP, cl, alwP, alwM, cvP, c1, nI_clamp (show j < 2 ^ 31 by omega), c2, c3]; done) | (simp_all [kLeave, mP, sP, inP, cl, alwP, alwM, cvP]; done)) (by decide)))) dX6_leave_46
    · have c2 := bI_1 c2
      refine lv_aload_n hx hb dX6_leave_21 rfl (lv_at hl 0 rfl) ?_
      refine lv_iload_n hx hb dX6_leave_22 rfl (lv_at hl 1 rfl) ?_
      refine lv_iconst (v := 1) hx hb dX6_leave_23 (by decide) ?_
      refine z_callV1 (rest := [.ref (q 0)]) S (c_X6_of j 1 (14 + 16 * j + 1) (show j < 8 by omega) (show 1 < 16 by decide) (by omega) (z (14 + 16 * j + 1)) (rfl)) qm_X6_36 v_X6_of ⟨Nat.le_of_ble_eq_true rfl, Nat.le_of_ble_eq_true rfl⟩ rfl rfl hN hK hP hD hS hA (0) (mo_0) rfl rfl hl.1 rfl (Nat.le_of_ble_eq_true rfl) dX6_leave_24 ⟨Nat.le_of_ble_eq_true rfl, Nat.le_of_ble_eq_true rfl⟩ (fun H locs hP hD hS => ?_)
      refine lv_if_lt (tgt := 34) hx hb dX6_leave_27 (by decide) (fun c4 => ?_) (fun c4 => ?_)
      · skip
        refine lv_iconst (v := 2) hx hb dX6_leave_34 (by decide) ?_
        refine z_put (v := .int 2) (ty := .int) (ws2 := moW cI q z hi tx pa ke (upd mr 2 2) hs wr) hx hb hts inTX6 tyX6 tyX6_ok nmX6 hown hK hP hD hS (0) (mo_0) rfl 5 (by decide) (hts _ qf_X6_25) (fun _ h9 => h9) rfl (by decide +kernel) (rfl) (rfl) (Nat.le_of_ble_eq_true rfl) dX6_leave_35 (mo_w0 _ mfl_s2) (fun H locs hP hD hS => ?_)
        refine lv_aload_n hx hb dX6_leave_38 rfl (lv_at hl 0 rfl) ?_
        refine va_get (v := .int 2) hx hb hts inTX6 hown hK hP (0) (mo_0) rfl 5 (by decide) (hts _ qf_X6_25) (fun _ h9 => h9) (congrArg (fun x => some (Value.int x)) (upd_eq rfl)) dX6_leave_39 ?_
        refine lv_if_le (tgt := 47) hx hb dX6_leave_42 (by decide) (fun c5 => absurd c5 (by decide)) (fun c5 => ?_)
        have c5 := z_lt c5
        refine lv_iconst (v := 0) hx hb dX6_leave_45 (by decide) ?_
        exact z_iret hx hb hr hlocks hP hD hK hS (Eq.symm (xwf_n (K := kLeave z n (nI j)) (k := 2) (by first | (simp only [kLeave, mP, sP, inP, cl, alwP, alwM, cvP, c1, nI_clamp (show j < 2 ^ 31 by omega), c2, c4, c5, not_true_eq_false, not_false_eq_true, and_self, and_true, true_and, and_false, false_and, or_true, true_or, or_false, false_or, if_true, if_false, ite_true, ite_false]; done) | (simp [kLeave, mP, sP, inP, cl, alwP, alwM, cvP, c1, nI_clamp (show j < 2 ^ 31 by omega), c2, c4, c5]; done) | (simp_all [kLeave, mP, sP, inP, cl, alwP, alwM, cvP]; done)) (by decide))) (congrArg (fun y_ => some (Value.int y_)) (Eq.symm (xv_n (K := kLeave z n (nI j)) (k := 2) (by first | (simp only [kLeave, mP, sP, inP, cl, alwP, alwM, cvP, c1, nI_clamp (show j < 2 ^ 31 by omega), c2, c4, c5, not_true_eq_false, not_false_eq_true, and_self, and_true, true_and, and_false, false_and, or_true, true_or, or_false, false_or, if_true, if_false, ite_true, ite_false]; done) | (simp [kLeave, mP, sP, inP, cl, alwP, alwM, cvP, c1, nI_clamp (show j < 2 ^ 31 by omega), c2, c4, c5]; done) | (simp_all [kLeave, mP, sP, inP, cl, alwP, alwM, cvP]; done)) (by decide)))) dX6_leave_46
      · skip
        refine lv_iconst (v := 0) hx hb dX6_leave_30 (by decide) ?_
        refine lv_goto (tgt := 35) hx hb dX6_leave_31 (by decide) ?_
        refine z_put (v := .int 0) (ty := .int) (ws2 := moW cI q z hi tx pa ke (upd mr 2 0) hs wr) hx hb hts inTX6 tyX6 tyX6_ok nmX6 hown hK hP hD hS (0) (mo_0) rfl 5 (by decide) (hts _ qf_X6_25) (fun _ h9 => h9) rfl (by decide +kernel) (rfl) (rfl) (Nat.le_of_ble_eq_true rfl) dX6_leave_35 (mo_w0 _ mfl_s2) (fun H locs hP hD hS => ?_)
        refine lv_aload_n hx hb dX6_leave_38 rfl (lv_at hl 0 rfl) ?_
        refine va_get (v := .int 0) hx hb hts inTX6 hown hK hP (0) (mo_0) rfl 5 (by decide) (hts _ qf_X6_25) (fun _ h9 => h9) (congrArg (fun x => some (Value.int x)) (upd_eq rfl)) dX6_leave_39 ?_
        refine lv_if_le (tgt := 47) hx hb dX6_leave_42 (by decide) (fun c6 => ?_) (fun c6 => absurd (by decide) c6)
        have c6 := z_nlt c6
        refine lv_aload_n hx hb dX6_leave_47 rfl (lv_at hl 0 rfl) ?_
        refine z_callV0 (rest := []) S (c_X6_save (u := u) (by omega) ((upd_ne (by omega)).trans (hm))) qm_X6_58 v_X6_save ⟨Nat.le_of_ble_eq_true rfl, Nat.le_of_ble_eq_true rfl⟩ rfl rfl hN hK hP hD hS hA (0) (mo_0) rfl rfl hl.1 rfl (Nat.le_of_ble_eq_true rfl) dX6_leave_48 ⟨Nat.le_of_ble_eq_true rfl, Nat.le_of_ble_eq_true rfl⟩ (fun H locs hP hD hS => ?_)
        refine lv_aload_n hx hb dX6_leave_51 rfl (lv_at hl 0 rfl) ?_
        refine lv_iload_n hx hb dX6_leave_52 rfl (lv_at hl 1 rfl) ?_
        refine lv_iconst (v := 1) hx hb dX6_leave_53 (by decide) ?_
        refine z_callV1 (rest := []) S (c_X6_of j 1 (14 + 16 * j + 1) (show j < 8 by omega) (show 1 < 16 by decide) (by omega) (z (14 + 16 * j + 1)) (rfl)) qm_X6_36 v_X6_of ⟨Nat.le_of_ble_eq_true rfl, Nat.le_of_ble_eq_true rfl⟩ rfl rfl hN hK hP hD hS hA (0) (mo_0) rfl rfl hl.1 rfl (Nat.le_of_ble_eq_true rfl) dX6_leave_54 ⟨Nat.le_of_ble_eq_true rfl, Nat.le_of_ble_eq_true rfl⟩ (fun H locs hP hD hS => ?_)
        refine lv_istore_n (lv' := [(2, .int (z (14 + 16 * j + 1))), (0, .ref (q 0)), (1, .int (nI j))]) hx hb dX6_leave_57 rfl hl (by decide) rfl (fun ls hl => ?_)
        refine lv_aload_n hx hb dX6_leave_58 rfl (lv_at hl 1 rfl) ?_
        refine va_get (v := .ref (q 1)) hx hb hts inTX6 hown hK hP (0) (mo_0) rfl 0 (by decide) (hts _ qf_X6_7) (fun _ h9 => h9) (rfl) dX6_leave_59 ?_
        refine lv_bipush (v := 6) hx hb dX6_leave_62 (by decide) ?_
        refine lv_dup2_11 hx hb dX6_leave_64 rfl rfl ?_
        refine va_iald hx hb hK hP (1) 0 (mo_1) rfl (vp_in_nI (show 6 < 142 by decide) (by omega)) dX6_leave_65 ?_
        refine z_top (v2 := .int (z 6)) (congrArg Value.int (((congrArg (zfn z) (z_cl (k := 6) rfl)).trans (zfn_at (by omega))).trans (rfl))) ?_
        refine lv_iload_n hx hb dX6_leave_66 rfl (lv_at hl 0 rfl) ?_
        refine lv_iadd hx hb dX6_leave_67  ?_
        refine z_iast (ws2 := moW cI q (upd z 6 ((z 6) + (z (14 + 16 * j + 1)))) (svH hi z u) tx pa ke (upd (upd mr 2 0) 0 (nI (min (u + 1) 6))) hs wr) hx hb hK hP hD hS (1) 0 (mo_1) rfl (vp_in_nI (show 6 < 142 by decide) (by omega)) dX6_leave_68 (mo_w1 (z_cl (k := 6) rfl) (by omega)) (fun H locs hP hD hS => ?_)
        refine lv_aload_n hx hb dX6_leave_69 rfl (lv_at hl 1 rfl) ?_
        refine lv_iload_n hx hb dX6_leave_70 rfl (lv_at hl 2 rfl) ?_
        refine lv_iconst (v := 0) hx hb dX6_leave_71 (by decide) ?_
        refine lv_iconst (v := 0) hx hb dX6_leave_72 (by decide) ?_
        refine z_callV0 (rest := []) S (c_X6_put j 0 (14 + 16 * j) (show j < 8 by omega) (show 0 < 16 by decide) (by omega) 0) qm_X6_61 v_X6_put ⟨Nat.le_of_ble_eq_true rfl, Nat.le_of_ble_eq_true rfl⟩ rfl rfl hN hK hP hD hS hA (0) (mo_0) rfl rfl hl.1 rfl (Nat.le_of_ble_eq_true rfl) dX6_leave_73 ⟨Nat.le_of_ble_eq_true rfl, Nat.le_of_ble_eq_true rfl⟩ (fun H locs hP hD hS => ?_)
        refine lv_aload_n hx hb dX6_leave_76 rfl (lv_at hl 1 rfl) ?_
        refine lv_iload_n hx hb dX6_leave_77 rfl (lv_at hl 2 rfl) ?_
        refine lv_iconst (v := 1) hx hb dX6_leave_78 (by decide) ?_
        refine lv_iconst (v := 0) hx hb dX6_leave_79 (by decide) ?_
        refine z_callV0 (rest := []) S (c_X6_put j 1 (14 + 16 * j + 1) (show j < 8 by omega) (show 1 < 16 by decide) (by omega) 0) qm_X6_61 v_X6_put ⟨Nat.le_of_ble_eq_true rfl, Nat.le_of_ble_eq_true rfl⟩ rfl rfl hN hK hP hD hS hA (0) (mo_0) rfl rfl hl.1 rfl (Nat.le_of_ble_eq_true rfl) dX6_leave_80 ⟨Nat.le_of_ble_eq_true rfl, Nat.le_of_ble_eq_true rfl⟩ (fun H locs hP hD hS => ?_)
        refine lv_aload_n hx hb dX6_leave_83 rfl (lv_at hl 1 rfl) ?_
        refine lv_iload_n hx hb dX6_leave_84 rfl (lv_at hl 2 rfl) ?_
        refine lv_iconst (v := 2) hx hb dX6_leave_85 (by decide) ?_
        refine lv_iconst (v := 0) hx hb dX6_leave_86 (by decide) ?_
        refine z_callV0 (rest := []) S (c_X6_put j 2 (14 + 16 * j + 2) (show j < 8 by omega) (show 2 < 16 by decide) (by omega) 0) qm_X6_61 v_X6_put ⟨Nat.le_of_ble_eq_true rfl, Nat.le_of_ble_eq_true rfl⟩ rfl rfl hN hK hP hD hS hA (0) (mo_0) rfl rfl hl.1 rfl (Nat.le_of_ble_eq_true rfl) dX6_leave_87 ⟨Nat.le_of_ble_eq_true rfl, Nat.le_of_ble_eq_true rfl⟩ (fun H locs hP hD hS => ?_)
        refine lv_aload_n hx hb dX6_leave_90 rfl (lv_at hl 1 rfl) ?_
        refine va_get (v := .ref (q 1)) hx hb hts inTX6 hown hK hP (0) (mo_0) rfl 0 (by decide) (hts _ qf_X6_7) (fun _ h9 => h9) (rfl) dX6_leave_91 ?_
        refine lv_bipush (v := 12) hx hb dX6_leave_94 (by decide) ?_
        refine lv_dup2_11 hx hb dX6_leave_96 rfl rfl ?_
        refine va_iald hx hb hK hP (1) 0 (mo_1) rfl (vp_in_nI (show 12 < 142 by decide) (by omega)) dX6_leave_97 ?_
        refine z_top (v2 := .int (z 12)) (congrArg Value.int (((congrArg (zfn (upd (upd (upd (upd z 6 ((z 6) + (z (14 + 16 * j + 1)))) (14 + 16 * j) 0) (14 + 16 * j + 1) 0) (14 + 16 * j + 2) 0)) (z_cl (k := 12) rfl)).trans (zfn_at (by omega))).trans ((upd_ne (by omega)).trans ((upd_ne (by omega)).trans ((upd_ne (by omega)).trans ((upd_ne (by omega)).trans (rfl))))))) ?_
        refine lv_iconst (v := 1) hx hb dX6_leave_98 (by decide) ?_
        refine lv_iload_n hx hb dX6_leave_99 rfl (lv_at hl 2 rfl) ?_
        refine lv_ishl hx hb dX6_leave_100  ?_
        refine lv_iconst (v := (-1)) hx hb dX6_leave_101 (by decide) ?_
        refine lv_ixor hx hb dX6_leave_102  ?_
        refine lv_iand hx hb dX6_leave_103  ?_
        refine z_iast (ws2 := moW cI q (upd (upd (upd (upd (upd z 6 ((z 6) + (z (14 + 16 * j + 1)))) (14 + 16 * j) 0) (14 + 16 * j + 1) 0) (14 + 16 * j + 2) 0) 12 ((z 12) &&& ((1 <<< ((nI j) &&& 31)) ^^^ (-1)))) (svH hi z u) tx pa ke (upd (upd mr 2 0) 0 (nI (min (u + 1) 6))) hs wr) hx hb hK hP hD hS (1) 0 (mo_1) rfl (vp_in_nI (show 12 < 142 by decide) (by omega)) dX6_leave_104 (mo_w1 (z_cl (k := 12) rfl) (by omega)) (fun H locs hP hD hS => ?_)
        refine lv_aload_n hx hb dX6_leave_105 rfl (lv_at hl 1 rfl) ?_
        refine va_get (v := .ref (q 1)) hx hb hts inTX6 hown hK hP (0) (mo_0) rfl 0 (by decide) (hts _ qf_X6_7) (fun _ h9 => h9) (rfl) dX6_leave_106 ?_
        refine lv_bipush (v := 13) hx hb dX6_leave_109 (by decide) ?_
        refine lv_dup2_11 hx hb dX6_leave_111 rfl rfl ?_
        refine va_iald hx hb hK hP (1) 0 (mo_1) rfl (vp_in_nI (show 13 < 142 by decide) (by omega)) dX6_leave_112 ?_
        refine z_top (v2 := .int (z 13)) (congrArg Value.int (((congrArg (zfn (upd (upd (upd (upd (upd z 6 ((z 6) + (z (14 + 16 * j + 1)))) (14 + 16 * j) 0) (14 + 16 * j + 1) 0) (14 + 16 * j + 2) 0) 12 ((z 12) &&& ((1 <<< ((nI j) &&& 31)) ^^^ (-1))))) (z_cl (k := 13) rfl)).trans (zfn_at (by omega))).trans ((upd_ne (by omega)).trans ((upd_ne (by omega)).trans ((upd_ne (by omega)).trans ((upd_ne (by omega)).trans ((upd_ne (by omega)).trans (rfl)))))))) ?_
        refine lv_iconst (v := 1) hx hb dX6_leave_113 (by decide) ?_
        refine lv_iload_n hx hb dX6_leave_114 rfl (lv_at hl 2 rfl) ?_
        refine lv_ishl hx hb dX6_leave_115  ?_
        refine lv_iconst (v := (-1)) hx hb dX6_leave_116 (by decide) ?_
        refine lv_ixor hx hb dX6_leave_117  ?_
        refine lv_iand hx hb dX6_leave_118  ?_
        refine z_iast (ws2 := moW cI q (upd (upd (upd (upd (upd (upd z 6 ((z 6) + (z (14 + 16 * j + 1)))) (14 + 16 * j) 0) (14 + 16 * j + 1) 0) (14 + 16 * j + 2) 0) 12 ((z 12) &&& ((1 <<< ((nI j) &&& 31)) ^^^ (-1)))) 13 ((z 13) &&& ((1 <<< ((nI j) &&& 31)) ^^^ (-1)))) (svH hi z u) tx pa ke (upd (upd mr 2 0) 0 (nI (min (u + 1) 6))) hs wr) hx hb hK hP hD hS (1) 0 (mo_1) rfl (vp_in_nI (show 13 < 142 by decide) (by omega)) dX6_leave_119 (mo_w1 (z_cl (k := 13) rfl) (by omega)) (fun H locs hP hD hS => ?_)
        refine lv_aload_n hx hb dX6_leave_120 rfl (lv_at hl 1 rfl) ?_
        refine va_get (v := .ref (q 1)) hx hb hts inTX6 hown hK hP (0) (mo_0) rfl 0 (by decide) (hts _ qf_X6_7) (fun _ h9 => h9) (rfl) dX6_leave_121 ?_
        refine lv_bipush (v := 10) hx hb dX6_leave_124 (by decide) ?_
        refine va_iald hx hb hK hP (1) 0 (mo_1) rfl (vp_in_nI (show 10 < 142 by decide) (by omega)) dX6_leave_126 ?_
        refine z_top (v2 := .int (-1)) (congrArg Value.int (((congrArg (zfn (upd (upd (upd (upd (upd (upd z 6 ((z 6) + (z (14 + 16 * j + 1)))) (14 + 16 * j) 0) (14 + 16 * j + 1) 0) (14 + 16 * j + 2) 0) 12 ((z 12) &&& ((1 <<< ((nI j) &&& 31)) ^^^ (-1)))) 13 ((z 13) &&& ((1 <<< ((nI j) &&& 31)) ^^^ (-1))))) (z_cl (k := 10) rfl)).trans (zfn_at (by omega))).trans ((upd_ne (by omega)).trans ((upd_ne (by omega)).trans ((upd_ne (by omega)).trans ((upd_ne (by omega)).trans ((upd_ne (by omega)).trans ((upd_ne (by omega)).trans (hz2))))))))) ?_
        refine lv_iload_n hx hb dX6_leave_127 rfl (lv_at hl 2 rfl) ?_
        refine lv_icmp_ne (tgt := 135) hx hb dX6_leave_128 (by decide) (fun c7 => ?_) (fun c7 => absurd c7 (nI_m1 (show j < 8 by omega)))
        refine lv_aload_n hx hb dX6_leave_135 rfl (lv_at hl 1 rfl) ?_
        refine va_get (v := .ref (q 1)) hx hb hts inTX6 hown hK hP (0) (mo_0) rfl 0 (by decide) (hts _ qf_X6_7) (fun _ h9 => h9) (rfl) dX6_leave_136 ?_
        refine lv_bipush (v := 10) hx hb dX6_leave_139 (by decide) ?_
        refine va_iald hx hb hK hP (1) 0 (mo_1) rfl (vp_in_nI (show 10 < 142 by decide) (by omega)) dX6_leave_141 ?_
        refine z_top (v2 := .int (-1)) (congrArg Value.int (((congrArg (zfn (upd (upd (upd (upd (upd (upd z 6 ((z 6) + (z (14 + 16 * j + 1)))) (14 + 16 * j) 0) (14 + 16 * j + 1) 0) (14 + 16 * j + 2) 0) 12 ((z 12) &&& ((1 <<< ((nI j) &&& 31)) ^^^ (-1)))) 13 ((z 13) &&& ((1 <<< ((nI j) &&& 31)) ^^^ (-1))))) (z_cl (k := 10) rfl)).trans (zfn_at (by omega))).trans ((upd_ne (by omega)).trans ((upd_ne (by omega)).trans ((upd_ne (by omega)).trans ((upd_ne (by omega)).trans ((upd_ne (by omega)).trans ((upd_ne (by omega)).trans (hz2))))))))) ?_
        refine lv_iconst (v := (-1)) hx hb dX6_leave_142 (by decide) ?_
        refine lv_icmp_ne (tgt := 150) hx hb dX6_leave_143 (by decide) (fun c8 => absurd c8 (by decide)) (fun c8 => ?_)
        refine lv_iconst (v := 0) hx hb dX6_leave_146 (by decide) ?_
        refine lv_goto (tgt := 154) hx hb dX6_leave_147 (by decide) ?_
        refine lv_istore_n (lv' := [(3, .int 0), (2, .int (z (14 + 16 * j + 1))), (0, .ref (q 0)), (1, .int (nI j))]) hx hb dX6_leave_154 rfl hl (by decide) rfl (fun ls hl => ?_)
        refine lv_iload_n hx hb dX6_leave_155 rfl (lv_at hl 1 rfl) ?_
        exact z_iret hx hb hr hlocks hP hD hK hS (Eq.trans (b := moW cI q (qz_out z (cl (nI j))) (svH hi z u) tx pa ke (upd (upd mr 2 0) 0 (nI (min (u + 1) 6))) hs wr) (by simp only [cl, qz_out, nI_clamp (show j < 2 ^ 31 by omega)]) (Eq.symm (xwf_0 (K := kLeave z n (nI j)) (by first | (simp only [kLeave, mP, sP, inP, cl, alwP, alwM, cvP, c1, nI_clamp (show j < 2 ^ 31 by omega), c2, c4, c6, c7, c8, not_true_eq_false, not_false_eq_true, and_self, and_true, true_and, and_false, false_and, or_true, true_or, or_false, false_or, if_true, if_false, ite_true, ite_false]; done) | (simp [kLeave, mP, sP, inP, cl, alwP, alwM, cvP, c1, nI_clamp (show j < 2 ^ 31 by omega), c2, c4, c6, c7, c8]; done) | (simp_all [kLeave, mP, sP, inP, cl, alwP, alwM, cvP]; done))))) (congrArg (fun y_ => some (Value.int y_)) (Eq.trans (b := z (14 + 16 * cl (nI j) + 1)) (by simp only [cl, qz_out, nI_clamp (show j < 2 ^ 31 by omega)]) (Eq.symm (xv_0 (K := kLeave z n (nI j)) (by first | (simp only [kLeave, mP, sP, inP, cl, alwP, alwM, cvP, c1, nI_clamp (show j < 2 ^ 31 by omega), c2, c4, c6, c7, c8, not_true_eq_false, not_false_eq_true, and_self, and_true, true_and, and_false, false_and, or_true, true_or, or_false, false_or, if_true, if_false, ite_true, ite_false]; done) | (simp [kLeave, mP, sP, inP, cl, alwP, alwM, cvP, c1, nI_clamp (show j < 2 ^ 31 by omega), c2, c4, c6, c7, c8]; done) | (simp_all [kLeave, mP, sP, inP, cl, alwP, alwM, cvP]; done)))))) dX6_leave_156
  · have c1 := bI_0 c1
    refine lv_iconst (v := 1) hx hb dX6_leave_9 (by decide) ?_
    refine lv_goto (tgt := 35) hx hb dX6_leave_10 (by decide) ?_
    refine z_put (v := .int 1) (ty := .int) (ws2 := moW cI q z hi tx pa ke (upd mr 2 1) hs wr) hx hb hts inTX6 tyX6 tyX6_ok nmX6 hown hK hP hD hS (0) (mo_0) rfl 5 (by decide) (hts _ qf_X6_25) (fun _ h9 => h9) rfl (by decide +kernel) (rfl) (rfl) (Nat.le_of_ble_eq_true rfl) dX6_leave_35 (mo_w0 _ mfl_s2) (fun H locs hP hD hS => ?_)
    refine lv_aload_n hx hb dX6_leave_38 rfl (lv_at hl 0 rfl) ?_
    refine va_get (v := .int 1) hx hb hts inTX6 hown hK hP (0) (mo_0) rfl 5 (by decide) (hts _ qf_X6_25) (fun _ h9 => h9) (congrArg (fun x => some (Value.int x)) (upd_eq rfl)) dX6_leave_39 ?_
    refine lv_if_le (tgt := 47) hx hb dX6_leave_42 (by decide) (fun c9 => absurd c9 (by decide)) (fun c9 => ?_)
    have c9 := z_lt c9
    refine lv_iconst (v := 0) hx hb dX6_leave_45 (by decide) ?_
    exact z_iret hx hb hr hlocks hP hD hK hS (Eq.symm (xwf_n (K := kLeave z n mb) (k := 1) (by first | (simp only [kLeave, mP, sP, inP, cl, alwP, alwM, cvP, c1, c9, not_true_eq_false, not_false_eq_true, and_self, and_true, true_and, and_false, false_and, or_true, true_or, or_false, false_or, if_true, if_false, ite_true, ite_false]; done) | (simp [kLeave, mP, sP, inP, cl, alwP, alwM, cvP, c1, c9]; done) | (simp_all [kLeave, mP, sP, inP, cl, alwP, alwM, cvP]; done)) (by decide))) (congrArg (fun y_ => some (Value.int y_)) (Eq.symm (xv_n (K := kLeave z n mb) (k := 1) (by first | (simp only [kLeave, mP, sP, inP, cl, alwP, alwM, cvP, c1, c9, not_true_eq_false, not_false_eq_true, and_self, and_true, true_and, and_false, false_and, or_true, true_or, or_false, false_or, if_true, if_false, ite_true, ite_false]; done) | (simp [kLeave, mP, sP, inP, cl, alwP, alwM, cvP, c1, c9]; done) | (simp_all [kLeave, mP, sP, inP, cl, alwP, alwM, cvP]; done)) (by decide)))) dX6_leave_46
set_option maxHeartbeats 4000000 in
set_option maxRecDepth 100000 in
theorem c_X6_leave_b {n : Nat} (hn : n ≤ 8) (hz : z 5 = nI n) {u : Nat} (hu : u ≤ 6) (hm : mr 0 = nI u) (hB : hBool z) {d : Nat} (hd : d < n) (hz2 : z 10 = nI d) (mb : Int32) : zM l D (zT cI cC cM cB cJ) yX6_leave cX6_leave 4 (some .int) ({ frames := 4, cells := 0, slots := 0, locals := 87 } : Room) [.ref (q 0), .int mb] (moW cI q z hi tx pa ke mr hs wr) (xwf (kLeave z n mb) (moW cI q (qz_leave z n (cl mb) d) (svH hi z u) tx pa ke (upd (upd mr 2 0) 0 (nI (min (u + 1) 6))) hs wr) (fun k_ => moW cI q z hi tx pa ke (upd mr 2 k_) hs wr)) (some (.int (xv (kLeave z n mb) (z (14 + 16 * cl mb + 1))))) 0 0 := by
  refine z_enter (by decide) (Nat.le_of_ble_eq_true rfl) ?_
  intro p e s m below meth c A S hr hlocks hnm hN hA hK hP hD hS ls hl
  obtain ⟨hx, hb, hml, hown, hts⟩ := id S
  have hl : lv_has ls 4 [(0, .ref (q 0)), (1, .int mb)] := hl
  have hP : va_P D vwCl (moW cI q z hi tx pa ke mr hs wr) s.heap := hP
  have hD : va_D A (moW cI q z hi tx pa ke mr hs wr) := hD
  refine lv_aload_n hx hb dX6_leave_0 rfl (lv_at hl 0 rfl) ?_
  refine lv_aload_n hx hb dX6_leave_1 rfl (lv_at hl 0 rfl) ?_
  refine lv_iload_n hx hb dX6_leave_2 rfl (lv_at hl 1 rfl) ?_
  refine z_callV1 (rest := [.ref (q 0)]) S (c_X6_isMember (n := n) (show n ≤ 8 by omega) (hz) mb) qm_X6_64 v_X6_isMember ⟨Nat.le_of_ble_eq_true rfl, Nat.le_of_ble_eq_true rfl⟩ rfl rfl hN hK hP hD hS hA (0) (mo_0) rfl rfl hl.1 rfl (Nat.le_of_ble_eq_true rfl) dX6_leave_3 ⟨Nat.le_of_ble_eq_true rfl, Nat.le_of_ble_eq_true rfl⟩ (fun H locs hP hD hS => ?_)
  refine lv_if_ne (tgt := 13) hx hb dX6_leave_6 (by decide) (fun c1 => ?_) (fun c1 => ?_)
  · have c1 := bI_1 c1
    obtain ⟨j, hj, rfl⟩ := mem_nat hn c1
    refine lv_aload_n hx hb dX6_leave_13 rfl (lv_at hl 0 rfl) ?_
    refine lv_iload_n hx hb dX6_leave_14 rfl (lv_at hl 1 rfl) ?_
    refine z_callV1 (rest := [.ref (q 0)]) S (c_X6_isThere j (show j < 8 by omega) ((hB) j (show j < 8 by omega)).1) qm_X6_68 v_X6_isThere ⟨Nat.le_of_ble_eq_true rfl, Nat.le_of_ble_eq_true rfl⟩ rfl rfl hN hK hP hD hS hA (0) (mo_0) rfl rfl hl.1 rfl (Nat.le_of_ble_eq_true rfl) dX6_leave_15 ⟨Nat.le_of_ble_eq_true rfl, Nat.le_of_ble_eq_true rfl⟩ (fun H locs hP hD hS => ?_)
    refine lv_if_eq (tgt := 34) hx hb dX6_leave_18 (by decide) (fun c2 => ?_) (fun c2 => ?_)
    · have c2 := bI_0n c2
      refine lv_iconst (v := 2) hx hb dX6_leave_34 (by decide) ?_
      refine z_put (v := .int 2) (ty := .int) (ws2 := moW cI q z hi tx pa ke (upd mr 2 2) hs wr) hx hb hts inTX6 tyX6 tyX6_ok nmX6 hown hK hP hD hS (0) (mo_0) rfl 5 (by decide) (hts _ qf_X6_25) (fun _ h9 => h9) rfl (by decide +kernel) (rfl) (rfl) (Nat.le_of_ble_eq_true rfl) dX6_leave_35 (mo_w0 _ mfl_s2) (fun H locs hP hD hS => ?_)
      refine lv_aload_n hx hb dX6_leave_38 rfl (lv_at hl 0 rfl) ?_
      refine va_get (v := .int 2) hx hb hts inTX6 hown hK hP (0) (mo_0) rfl 5 (by decide) (hts _ qf_X6_25) (fun _ h9 => h9) (congrArg (fun x => some (Value.int x)) (upd_eq rfl)) dX6_leave_39 ?_
      refine lv_if_le (tgt := 47) hx hb dX6_leave_42 (by decide) (fun c3 => absurd c3 (by decide)) (fun c3 => ?_)
      have c3 := z_lt c3
      refine lv_iconst (v := 0) hx hb dX6_leave_45 (by decide) ?_
      exact z_iret hx hb hr hlocks hP hD hK hS (Eq.symm (xwf_n (K := kLeave z n (nI j)) (k := 2) (by first | (simp only [kLeave, mP, sP, inP, cl, alwP, alwM, cvP, c1, nI_clamp (show j < 2 ^ 31 by omega), c2, c3, not_true_eq_false, not_false_eq_true, and_self, and_true, true_and, and_false, false_and, or_true, true_or, or_false, false_or, if_true, if_false, ite_true, ite_false]; done) | (simp [kLeave, mP, sP, inP, cl, alwP, alwM, cvP, c1, nI_clamp (show j < 2 ^ 31 by omega), c2, c3]; done) | (simp_all [kLeave, mP, sP, inP, cl, alwP, alwM, cvP]; done)) (by decide))) (congrArg (fun y_ => some (Value.int y_)) (Eq.symm (xv_n (K := kLeave z n (nI j)) (k := 2) (by first | (simp only [kLeave, mP, sP, inP, cl, alwP, alwM, cvP, c1, nI_clamp (show j < 2 ^ 31 by omega), c2, c3, not_true_eq_false, not_false_eq_true, and_self, and_true, true_and, and_false, false_and, or_true, true_or, or_false, false_or, if_true, if_false, ite_true, ite_false]; done) | (simp [kLeave, mP, sP, inP, cl, alwP, alwM, cvP, c1, nI_clamp (show j < 2 ^ 31 by omega), c2, c3]; done) | (simp_all [kLeave, mP, sP, inP, cl, alwP, alwM, cvP]; done)) (by decide)))) dX6_leave_46
    · have c2 := bI_1 c2
      refine lv_aload_n hx hb dX6_leave_21 rfl (lv_at hl 0 rfl) ?_
      refine lv_iload_n hx hb dX6_leave_22 rfl (lv_at hl 1 rfl) ?_
      refine lv_iconst (v := 1) hx hb dX6_leave_23 (by decide) ?_
      refine z_callV1 (rest := [.ref (q 0)]) S (c_X6_of j 1 (14 + 16 * j + 1) (show j < 8 by omega) (show 1 < 16 by decide) (by omega) (z (14 + 16 * j + 1)) (rfl)) qm_X6_36 v_X6_of ⟨Nat.le_of_ble_eq_true rfl, Nat.le_of_ble_eq_true rfl⟩ rfl rfl hN hK hP hD hS hA (0) (mo_0) rfl rfl hl.1 rfl (Nat.le_of_ble_eq_true rfl) dX6_leave_24 ⟨Nat.le_of_ble_eq_true rfl, Nat.le_of_ble_eq_true rfl⟩ (fun H locs hP hD hS => ?_)
      refine lv_if_lt (tgt := 34) hx hb dX6_leave_27 (by decide) (fun c4 => ?_) (fun c4 => ?_)
      · skip
        refine lv_iconst (v := 2) hx hb dX6_leave_34 (by decide) ?_
        refine z_put (v := .int 2) (ty := .int) (ws2 := moW cI q z hi tx pa ke (upd mr 2 2) hs wr) hx hb hts inTX6 tyX6 tyX6_ok nmX6 hown hK hP hD hS (0) (mo_0) rfl 5 (by decide) (hts _ qf_X6_25) (fun _ h9 => h9) rfl (by decide +kernel) (rfl) (rfl) (Nat.le_of_ble_eq_true rfl) dX6_leave_35 (mo_w0 _ mfl_s2) (fun H locs hP hD hS => ?_)
        refine lv_aload_n hx hb dX6_leave_38 rfl (lv_at hl 0 rfl) ?_
        refine va_get (v := .int 2) hx hb hts inTX6 hown hK hP (0) (mo_0) rfl 5 (by decide) (hts _ qf_X6_25) (fun _ h9 => h9) (congrArg (fun x => some (Value.int x)) (upd_eq rfl)) dX6_leave_39 ?_
        refine lv_if_le (tgt := 47) hx hb dX6_leave_42 (by decide) (fun c5 => absurd c5 (by decide)) (fun c5 => ?_)
        have c5 := z_lt c5
        refine lv_iconst (v := 0) hx hb dX6_leave_45 (by decide) ?_
        exact z_iret hx hb hr hlocks hP hD hK hS (Eq.symm (xwf_n (K := kLeave z n (nI j)) (k := 2) (by first | (simp only [kLeave, mP, sP, inP, cl, alwP, alwM, cvP, c1, nI_clamp (show j < 2 ^ 31 by omega), c2, c4, c5, not_true_eq_false, not_false_eq_true, and_self, and_true, true_and, and_false, false_and, or_true, true_or, or_false, false_or, if_true, if_false, ite_true, ite_false]; done) | (simp [kLeave, mP, sP, inP, cl, alwP, alwM, cvP, c1, nI_clamp (show j < 2 ^ 31 by omega), c2, c4, c5]; done) | (simp_all [kLeave, mP, sP, inP, cl, alwP, alwM, cvP]; done)) (by decide))) (congrArg (fun y_ => some (Value.int y_)) (Eq.symm (xv_n (K := kLeave z n (nI j)) (k := 2) (by first | (simp only [kLeave, mP, sP, inP, cl, alwP, alwM, cvP, c1, nI_clamp (show j < 2 ^ 31 by omega), c2, c4, c5, not_true_eq_false, not_false_eq_true, and_self, and_true, true_and, and_false, false_and, or_true, true_or, or_false, false_or, if_true, if_false, ite_true, ite_false]; done) | (simp [kLeave, mP, sP, inP, cl, alwP, alwM, cvP, c1, nI_clamp (show j < 2 ^ 31 by omega), c2, c4, c5]; done) | (simp_all [kLeave, mP, sP, inP, cl, alwP, alwM, cvP]; done)) (by decide)))) dX6_leave_46
      · skip
        refine lv_iconst (v := 0) hx hb dX6_leave_30 (by decide) ?_
        refine lv_goto (tgt := 35) hx hb dX6_leave_31 (by decide) ?_
        refine z_put (v := .int 0) (ty := .int) (ws2 := moW cI q z hi tx pa ke (upd mr 2 0) hs wr) hx hb hts inTX6 tyX6 tyX6_ok nmX6 hown hK hP hD hS (0) (mo_0) rfl 5 (by decide) (hts _ qf_X6_25) (fun _ h9 => h9) rfl (by decide +kernel) (rfl) (rfl) (Nat.le_of_ble_eq_true rfl) dX6_leave_35 (mo_w0 _ mfl_s2) (fun H locs hP hD hS => ?_)
        refine lv_aload_n hx hb dX6_leave_38 rfl (lv_at hl 0 rfl) ?_
        refine va_get (v := .int 0) hx hb hts inTX6 hown hK hP (0) (mo_0) rfl 5 (by decide) (hts _ qf_X6_25) (fun _ h9 => h9) (congrArg (fun x => some (Value.int x)) (upd_eq rfl)) dX6_leave_39 ?_
        refine lv_if_le (tgt := 47) hx hb dX6_leave_42 (by decide) (fun c6 => ?_) (fun c6 => absurd (by decide) c6)
        have c6 := z_nlt c6
        refine lv_aload_n hx hb dX6_leave_47 rfl (lv_at hl 0 rfl) ?_
        refine z_callV0 (rest := []) S (c_X6_save (u := u) (by omega) ((upd_ne (by omega)).trans (hm))) qm_X6_58 v_X6_save ⟨Nat.le_of_ble_eq_true rfl, Nat.le_of_ble_eq_true rfl⟩ rfl rfl hN hK hP hD hS hA (0) (mo_0) rfl rfl hl.1 rfl (Nat.le_of_ble_eq_true rfl) dX6_leave_48 ⟨Nat.le_of_ble_eq_true rfl, Nat.le_of_ble_eq_true rfl⟩ (fun H locs hP hD hS => ?_)
        refine lv_aload_n hx hb dX6_leave_51 rfl (lv_at hl 0 rfl) ?_
        refine lv_iload_n hx hb dX6_leave_52 rfl (lv_at hl 1 rfl) ?_
        refine lv_iconst (v := 1) hx hb dX6_leave_53 (by decide) ?_
        refine z_callV1 (rest := []) S (c_X6_of j 1 (14 + 16 * j + 1) (show j < 8 by omega) (show 1 < 16 by decide) (by omega) (z (14 + 16 * j + 1)) (rfl)) qm_X6_36 v_X6_of ⟨Nat.le_of_ble_eq_true rfl, Nat.le_of_ble_eq_true rfl⟩ rfl rfl hN hK hP hD hS hA (0) (mo_0) rfl rfl hl.1 rfl (Nat.le_of_ble_eq_true rfl) dX6_leave_54 ⟨Nat.le_of_ble_eq_true rfl, Nat.le_of_ble_eq_true rfl⟩ (fun H locs hP hD hS => ?_)
        refine lv_istore_n (lv' := [(2, .int (z (14 + 16 * j + 1))), (0, .ref (q 0)), (1, .int (nI j))]) hx hb dX6_leave_57 rfl hl (by decide) rfl (fun ls hl => ?_)
        refine lv_aload_n hx hb dX6_leave_58 rfl (lv_at hl 1 rfl) ?_
        refine va_get (v := .ref (q 1)) hx hb hts inTX6 hown hK hP (0) (mo_0) rfl 0 (by decide) (hts _ qf_X6_7) (fun _ h9 => h9) (rfl) dX6_leave_59 ?_
        refine lv_bipush (v := 6) hx hb dX6_leave_62 (by decide) ?_
        refine lv_dup2_11 hx hb dX6_leave_64 rfl rfl ?_
        refine va_iald hx hb hK hP (1) 0 (mo_1) rfl (vp_in_nI (show 6 < 142 by decide) (by omega)) dX6_leave_65 ?_
        refine z_top (v2 := .int (z 6)) (congrArg Value.int (((congrArg (zfn z) (z_cl (k := 6) rfl)).trans (zfn_at (by omega))).trans (rfl))) ?_
        refine lv_iload_n hx hb dX6_leave_66 rfl (lv_at hl 0 rfl) ?_
        refine lv_iadd hx hb dX6_leave_67  ?_
        refine z_iast (ws2 := moW cI q (upd z 6 ((z 6) + (z (14 + 16 * j + 1)))) (svH hi z u) tx pa ke (upd (upd mr 2 0) 0 (nI (min (u + 1) 6))) hs wr) hx hb hK hP hD hS (1) 0 (mo_1) rfl (vp_in_nI (show 6 < 142 by decide) (by omega)) dX6_leave_68 (mo_w1 (z_cl (k := 6) rfl) (by omega)) (fun H locs hP hD hS => ?_)
        refine lv_aload_n hx hb dX6_leave_69 rfl (lv_at hl 1 rfl) ?_
        refine lv_iload_n hx hb dX6_leave_70 rfl (lv_at hl 2 rfl) ?_
        refine lv_iconst (v := 0) hx hb dX6_leave_71 (by decide) ?_
        refine lv_iconst (v := 0) hx hb dX6_leave_72 (by decide) ?_
        refine z_callV0 (rest := []) S (c_X6_put j 0 (14 + 16 * j) (show j < 8 by omega) (show 0 < 16 by decide) (by omega) 0) qm_X6_61 v_X6_put ⟨Nat.le_of_ble_eq_true rfl, Nat.le_of_ble_eq_true rfl⟩ rfl rfl hN hK hP hD hS hA (0) (mo_0) rfl rfl hl.1 rfl (Nat.le_of_ble_eq_true rfl) dX6_leave_73 ⟨Nat.le_of_ble_eq_true rfl, Nat.le_of_ble_eq_true rfl⟩ (fun H locs hP hD hS => ?_)
        refine lv_aload_n hx hb dX6_leave_76 rfl (lv_at hl 1 rfl) ?_
        refine lv_iload_n hx hb dX6_leave_77 rfl (lv_at hl 2 rfl) ?_
        refine lv_iconst (v := 1) hx hb dX6_leave_78 (by decide) ?_
        refine lv_iconst (v := 0) hx hb dX6_leave_79 (by decide) ?_
        refine z_callV0 (rest := []) S (c_X6_put j 1 (14 + 16 * j + 1) (show j < 8 by omega) (show 1 < 16 by decide) (by omega) 0) qm_X6_61 v_X6_put ⟨Nat.le_of_ble_eq_true rfl, Nat.le_of_ble_eq_true rfl⟩ rfl rfl hN hK hP hD hS hA (0) (mo_0) rfl rfl hl.1 rfl (Nat.le_of_ble_eq_true rfl) dX6_leave_80 ⟨Nat.le_of_ble_eq_true rfl, Nat.le_of_ble_eq_true rfl⟩ (fun H locs hP hD hS => ?_)
        refine lv_aload_n hx hb dX6_leave_83 rfl (lv_at hl 1 rfl) ?_
        refine lv_iload_n hx hb dX6_leave_84 rfl (lv_at hl 2 rfl) ?_
        refine lv_iconst (v := 2) hx hb dX6_leave_85 (by decide) ?_
        refine lv_iconst (v := 0) hx hb dX6_leave_86 (by decide) ?_
        refine z_callV0 (rest := []) S (c_X6_put j 2 (14 + 16 * j + 2) (show j < 8 by omega) (show 2 < 16 by decide) (by omega) 0) qm_X6_61 v_X6_put ⟨Nat.le_of_ble_eq_true rfl, Nat.le_of_ble_eq_true rfl⟩ rfl rfl hN hK hP hD hS hA (0) (mo_0) rfl rfl hl.1 rfl (Nat.le_of_ble_eq_true rfl) dX6_leave_87 ⟨Nat.le_of_ble_eq_true rfl, Nat.le_of_ble_eq_true rfl⟩ (fun H locs hP hD hS => ?_)
        refine lv_aload_n hx hb dX6_leave_90 rfl (lv_at hl 1 rfl) ?_
        refine va_get (v := .ref (q 1)) hx hb hts inTX6 hown hK hP (0) (mo_0) rfl 0 (by decide) (hts _ qf_X6_7) (fun _ h9 => h9) (rfl) dX6_leave_91 ?_
        refine lv_bipush (v := 12) hx hb dX6_leave_94 (by decide) ?_
        refine lv_dup2_11 hx hb dX6_leave_96 rfl rfl ?_
        refine va_iald hx hb hK hP (1) 0 (mo_1) rfl (vp_in_nI (show 12 < 142 by decide) (by omega)) dX6_leave_97 ?_
        refine z_top (v2 := .int (z 12)) (congrArg Value.int (((congrArg (zfn (upd (upd (upd (upd z 6 ((z 6) + (z (14 + 16 * j + 1)))) (14 + 16 * j) 0) (14 + 16 * j + 1) 0) (14 + 16 * j + 2) 0)) (z_cl (k := 12) rfl)).trans (zfn_at (by omega))).trans ((upd_ne (by omega)).trans ((upd_ne (by omega)).trans ((upd_ne (by omega)).trans ((upd_ne (by omega)).trans (rfl))))))) ?_
        refine lv_iconst (v := 1) hx hb dX6_leave_98 (by decide) ?_
        refine lv_iload_n hx hb dX6_leave_99 rfl (lv_at hl 2 rfl) ?_
        refine lv_ishl hx hb dX6_leave_100  ?_
        refine lv_iconst (v := (-1)) hx hb dX6_leave_101 (by decide) ?_
        refine lv_ixor hx hb dX6_leave_102  ?_
        refine lv_iand hx hb dX6_leave_103  ?_
        refine z_iast (ws2 := moW cI q (upd (upd (upd (upd (upd z 6 ((z 6) + (z (14 + 16 * j + 1)))) (14 + 16 * j) 0) (14 + 16 * j + 1) 0) (14 + 16 * j + 2) 0) 12 ((z 12) &&& ((1 <<< ((nI j) &&& 31)) ^^^ (-1)))) (svH hi z u) tx pa ke (upd (upd mr 2 0) 0 (nI (min (u + 1) 6))) hs wr) hx hb hK hP hD hS (1) 0 (mo_1) rfl (vp_in_nI (show 12 < 142 by decide) (by omega)) dX6_leave_104 (mo_w1 (z_cl (k := 12) rfl) (by omega)) (fun H locs hP hD hS => ?_)
        refine lv_aload_n hx hb dX6_leave_105 rfl (lv_at hl 1 rfl) ?_
        refine va_get (v := .ref (q 1)) hx hb hts inTX6 hown hK hP (0) (mo_0) rfl 0 (by decide) (hts _ qf_X6_7) (fun _ h9 => h9) (rfl) dX6_leave_106 ?_
        refine lv_bipush (v := 13) hx hb dX6_leave_109 (by decide) ?_
        refine lv_dup2_11 hx hb dX6_leave_111 rfl rfl ?_
        refine va_iald hx hb hK hP (1) 0 (mo_1) rfl (vp_in_nI (show 13 < 142 by decide) (by omega)) dX6_leave_112 ?_
        refine z_top (v2 := .int (z 13)) (congrArg Value.int (((congrArg (zfn (upd (upd (upd (upd (upd z 6 ((z 6) + (z (14 + 16 * j + 1)))) (14 + 16 * j) 0) (14 + 16 * j + 1) 0) (14 + 16 * j + 2) 0) 12 ((z 12) &&& ((1 <<< ((nI j) &&& 31)) ^^^ (-1))))) (z_cl (k := 13) rfl)).trans (zfn_at (by omega))).trans ((upd_ne (by omega)).trans ((upd_ne (by omega)).trans ((upd_ne (by omega)).trans ((upd_ne (by omega)).trans ((upd_ne (by omega)).trans (rfl)))))))) ?_
        refine lv_iconst (v := 1) hx hb dX6_leave_113 (by decide) ?_
        refine lv_iload_n hx hb dX6_leave_114 rfl (lv_at hl 2 rfl) ?_
        refine lv_ishl hx hb dX6_leave_115  ?_
        refine lv_iconst (v := (-1)) hx hb dX6_leave_116 (by decide) ?_
        refine lv_ixor hx hb dX6_leave_117  ?_
        refine lv_iand hx hb dX6_leave_118  ?_
        refine z_iast (ws2 := moW cI q (upd (upd (upd (upd (upd (upd z 6 ((z 6) + (z (14 + 16 * j + 1)))) (14 + 16 * j) 0) (14 + 16 * j + 1) 0) (14 + 16 * j + 2) 0) 12 ((z 12) &&& ((1 <<< ((nI j) &&& 31)) ^^^ (-1)))) 13 ((z 13) &&& ((1 <<< ((nI j) &&& 31)) ^^^ (-1)))) (svH hi z u) tx pa ke (upd (upd mr 2 0) 0 (nI (min (u + 1) 6))) hs wr) hx hb hK hP hD hS (1) 0 (mo_1) rfl (vp_in_nI (show 13 < 142 by decide) (by omega)) dX6_leave_119 (mo_w1 (z_cl (k := 13) rfl) (by omega)) (fun H locs hP hD hS => ?_)
        refine lv_aload_n hx hb dX6_leave_120 rfl (lv_at hl 1 rfl) ?_
        refine va_get (v := .ref (q 1)) hx hb hts inTX6 hown hK hP (0) (mo_0) rfl 0 (by decide) (hts _ qf_X6_7) (fun _ h9 => h9) (rfl) dX6_leave_121 ?_
        refine lv_bipush (v := 10) hx hb dX6_leave_124 (by decide) ?_
        refine va_iald hx hb hK hP (1) 0 (mo_1) rfl (vp_in_nI (show 10 < 142 by decide) (by omega)) dX6_leave_126 ?_
        refine z_top (v2 := .int (nI d)) (congrArg Value.int (((congrArg (zfn (upd (upd (upd (upd (upd (upd z 6 ((z 6) + (z (14 + 16 * j + 1)))) (14 + 16 * j) 0) (14 + 16 * j + 1) 0) (14 + 16 * j + 2) 0) 12 ((z 12) &&& ((1 <<< ((nI j) &&& 31)) ^^^ (-1)))) 13 ((z 13) &&& ((1 <<< ((nI j) &&& 31)) ^^^ (-1))))) (z_cl (k := 10) rfl)).trans (zfn_at (by omega))).trans ((upd_ne (by omega)).trans ((upd_ne (by omega)).trans ((upd_ne (by omega)).trans ((upd_ne (by omega)).trans ((upd_ne (by omega)).trans ((upd_ne (by omega)).trans (hz2))))))))) ?_
        refine lv_iload_n hx hb dX6_leave_127 rfl (lv_at hl 2 rfl) ?_
        refine lv_icmp_ne (tgt := 135) hx hb dX6_leave_128 (by decide) (fun c7 => ?_) (fun c7 => ?_)
        · skip
          refine lv_aload_n hx hb dX6_leave_135 rfl (lv_at hl 1 rfl) ?_
          refine va_get (v := .ref (q 1)) hx hb hts inTX6 hown hK hP (0) (mo_0) rfl 0 (by decide) (hts _ qf_X6_7) (fun _ h9 => h9) (rfl) dX6_leave_136 ?_
          refine lv_bipush (v := 10) hx hb dX6_leave_139 (by decide) ?_
          refine va_iald hx hb hK hP (1) 0 (mo_1) rfl (vp_in_nI (show 10 < 142 by decide) (by omega)) dX6_leave_141 ?_
          refine z_top (v2 := .int (nI d)) (congrArg Value.int (((congrArg (zfn (upd (upd (upd (upd (upd (upd z 6 ((z 6) + (z (14 + 16 * j + 1)))) (14 + 16 * j) 0) (14 + 16 * j + 1) 0) (14 + 16 * j + 2) 0) 12 ((z 12) &&& ((1 <<< ((nI j) &&& 31)) ^^^ (-1)))) 13 ((z 13) &&& ((1 <<< ((nI j) &&& 31)) ^^^ (-1))))) (z_cl (k := 10) rfl)).trans (zfn_at (by omega))).trans ((upd_ne (by omega)).trans ((upd_ne (by omega)).trans ((upd_ne (by omega)).trans ((upd_ne (by omega)).trans ((upd_ne (by omega)).trans ((upd_ne (by omega)).trans (hz2))))))))) ?_
          refine lv_iconst (v := (-1)) hx hb dX6_leave_142 (by decide) ?_
          refine lv_icmp_ne (tgt := 150) hx hb dX6_leave_143 (by decide) (fun c8 => ?_) (fun c8 => absurd c8 (nI_nm1 (show d < 8 by omega)))
          refine lv_aload_n hx hb dX6_leave_150 rfl (lv_at hl 1 rfl) ?_
          refine z_callV1 (rest := []) S (c_X6_lookAt (n := n) (show n ≤ 8 by omega) ((upd_ne (by omega)).trans ((upd_ne (by omega)).trans ((upd_ne (by omega)).trans ((upd_ne (by omega)).trans ((upd_ne (by omega)).trans ((upd_ne (by omega)).trans (hz))))))) (updB_x (updB_x (updB_x (updB_x (updB_0 (updB_x (hB) (fun i_ _ => by omega)) (Or.inl rfl)) (fun i_ _ => by omega)) (fun i_ _ => by omega)) (fun i_ _ => by omega)) (fun i_ _ => by omega)) (d := d) (show d < n by omega) ((upd_ne (by omega)).trans ((upd_ne (by omega)).trans ((upd_ne (by omega)).trans ((upd_ne (by omega)).trans ((upd_ne (by omega)).trans ((upd_ne (by omega)).trans (hz2)))))))) qm_X6_71 v_X6_lookAt ⟨Nat.le_of_ble_eq_true rfl, Nat.le_of_ble_eq_true rfl⟩ rfl rfl hN hK hP hD hS hA (0) (mo_0) rfl rfl hl.1 rfl (Nat.le_of_ble_eq_true rfl) dX6_leave_151 ⟨Nat.le_of_ble_eq_true rfl, Nat.le_of_ble_eq_true rfl⟩ (fun H locs hP hD hS => ?_)
          refine lv_istore_n (lv' := [(3, .int (lkR (upd (upd (upd (upd (upd (upd z 6 ((z 6) + (z (14 + 16 * j + 1)))) (14 + 16 * j) 0) (14 + 16 * j + 1) 0) (14 + 16 * j + 2) 0) 12 ((z 12) &&& ((1 <<< ((nI j) &&& 31)) ^^^ (-1)))) 13 ((z 13) &&& ((1 <<< ((nI j) &&& 31)) ^^^ (-1)))) n d)), (2, .int (z (14 + 16 * j + 1))), (0, .ref (q 0)), (1, .int (nI j))]) hx hb dX6_leave_154 rfl hl (by decide) rfl (fun ls hl => ?_)
          refine lv_iload_n hx hb dX6_leave_155 rfl (lv_at hl 1 rfl) ?_
          exact z_iret hx hb hr hlocks hP hD hK hS (Eq.trans (b := moW cI q (qz_leave z n (cl (nI j)) d) (svH hi z u) tx pa ke (upd (upd mr 2 0) 0 (nI (min (u + 1) 6))) hs wr) (by simp only [cl, qz_leave, nI_clamp (show j < 2 ^ 31 by omega)]; rw [if_neg c7]; rfl) (Eq.symm (xwf_0 (K := kLeave z n (nI j)) (by first | (simp only [kLeave, mP, sP, inP, cl, alwP, alwM, cvP, c1, nI_clamp (show j < 2 ^ 31 by omega), c2, c4, c6, c7, c8, not_true_eq_false, not_false_eq_true, and_self, and_true, true_and, and_false, false_and, or_true, true_or, or_false, false_or, if_true, if_false, ite_true, ite_false]; done) | (simp [kLeave, mP, sP, inP, cl, alwP, alwM, cvP, c1, nI_clamp (show j < 2 ^ 31 by omega), c2, c4, c6, c7, c8]; done) | (simp_all [kLeave, mP, sP, inP, cl, alwP, alwM, cvP]; done))))) (congrArg (fun y_ => some (Value.int y_)) (Eq.trans (b := z (14 + 16 * cl (nI j) + 1)) (by simp only [cl, qz_leave, qz_out, nI_clamp (show j < 2 ^ 31 by omega)]) (Eq.symm (xv_0 (K := kLeave z n (nI j)) (by first | (simp only [kLeave, mP, sP, inP, cl, alwP, alwM, cvP, c1, nI_clamp (show j < 2 ^ 31 by omega), c2, c4, c6, c7, c8, not_true_eq_false, not_false_eq_true, and_self, and_true, true_and, and_false, false_and, or_true, true_or, or_false, false_or, if_true, if_false, ite_true, ite_false]; done) | (simp [kLeave, mP, sP, inP, cl, alwP, alwM, cvP, c1, nI_clamp (show j < 2 ^ 31 by omega), c2, c4, c6, c7, c8]; done) | (simp_all [kLeave, mP, sP, inP, cl, alwP, alwM, cvP]; done)))))) dX6_leave_156
        · skip
          refine lv_aload_n hx hb dX6_leave_131 rfl (lv_at hl 1 rfl) ?_
          refine z_callV0 (rest := []) S (c_X6_endMotion ) qm_X6_55 v_X6_endMotion ⟨Nat.le_of_ble_eq_true rfl, Nat.le_of_ble_eq_true rfl⟩ rfl rfl hN hK hP hD hS hA (0) (mo_0) rfl rfl hl.1 rfl (Nat.le_of_ble_eq_true rfl) dX6_leave_132 ⟨Nat.le_of_ble_eq_true rfl, Nat.le_of_ble_eq_true rfl⟩ (fun H locs hP hD hS => ?_)
          refine lv_aload_n hx hb dX6_leave_135 rfl (lv_at hl 1 rfl) ?_
          refine va_get (v := .ref (q 1)) hx hb hts inTX6 hown hK hP (0) (mo_0) rfl 0 (by decide) (hts _ qf_X6_7) (fun _ h9 => h9) (rfl) dX6_leave_136 ?_
          refine lv_bipush (v := 10) hx hb dX6_leave_139 (by decide) ?_
          refine va_iald hx hb hK hP (1) 0 (mo_1) rfl (vp_in_nI (show 10 < 142 by decide) (by omega)) dX6_leave_141 ?_
          refine z_top (v2 := .int (-1)) (congrArg Value.int (((congrArg (zfn (endZ (upd (upd (upd (upd (upd (upd z 6 ((z 6) + (z (14 + 16 * j + 1)))) (14 + 16 * j) 0) (14 + 16 * j + 1) 0) (14 + 16 * j + 2) 0) 12 ((z 12) &&& ((1 <<< ((nI j) &&& 31)) ^^^ (-1)))) 13 ((z 13) &&& ((1 <<< ((nI j) &&& 31)) ^^^ (-1)))))) (z_cl (k := 10) rfl)).trans (zfn_at (by omega))).trans ((upd_ne (by decide)).trans ((upd_ne (by decide)).trans ((upd_ne (by decide)).trans (upd_eq rfl)))))) ?_
          refine lv_iconst (v := (-1)) hx hb dX6_leave_142 (by decide) ?_
          refine lv_icmp_ne (tgt := 150) hx hb dX6_leave_143 (by decide) (fun c9 => absurd c9 (by decide)) (fun c9 => ?_)
          refine lv_iconst (v := 0) hx hb dX6_leave_146 (by decide) ?_
          refine lv_goto (tgt := 154) hx hb dX6_leave_147 (by decide) ?_
          refine lv_istore_n (lv' := [(3, .int 0), (2, .int (z (14 + 16 * j + 1))), (0, .ref (q 0)), (1, .int (nI j))]) hx hb dX6_leave_154 rfl hl (by decide) rfl (fun ls hl => ?_)
          refine lv_iload_n hx hb dX6_leave_155 rfl (lv_at hl 1 rfl) ?_
          exact z_iret hx hb hr hlocks hP hD hK hS (Eq.trans (b := moW cI q (qz_leave z n (cl (nI j)) d) (svH hi z u) tx pa ke (upd (upd mr 2 0) 0 (nI (min (u + 1) 6))) hs wr) (by simp only [cl, qz_leave, nI_clamp (show j < 2 ^ 31 by omega)]; rw [if_pos c7]; rfl) (Eq.symm (xwf_0 (K := kLeave z n (nI j)) (by first | (simp only [kLeave, mP, sP, inP, cl, alwP, alwM, cvP, c1, nI_clamp (show j < 2 ^ 31 by omega), c2, c4, c6, c7, c9, not_true_eq_false, not_false_eq_true, and_self, and_true, true_and, and_false, false_and, or_true, true_or, or_false, false_or, if_true, if_false, ite_true, ite_false]; done) | (simp [kLeave, mP, sP, inP, cl, alwP, alwM, cvP, c1, nI_clamp (show j < 2 ^ 31 by omega), c2, c4, c6, c7, c9]; done) | (simp_all [kLeave, mP, sP, inP, cl, alwP, alwM, cvP]; done))))) (congrArg (fun y_ => some (Value.int y_)) (Eq.trans (b := z (14 + 16 * cl (nI j) + 1)) (by simp only [cl, qz_leave, qz_out, nI_clamp (show j < 2 ^ 31 by omega)]) (Eq.symm (xv_0 (K := kLeave z n (nI j)) (by first | (simp only [kLeave, mP, sP, inP, cl, alwP, alwM, cvP, c1, nI_clamp (show j < 2 ^ 31 by omega), c2, c4, c6, c7, c9, not_true_eq_false, not_false_eq_true, and_self, and_true, true_and, and_false, false_and, or_true, true_or, or_false, false_or, if_true, if_false, ite_true, ite_false]; done) | (simp [kLeave, mP, sP, inP, cl, alwP, alwM, cvP, c1, nI_clamp (show j < 2 ^ 31 by omega), c2, c4, c6, c7, c9]; done) | (simp_all [kLeave, mP, sP, inP, cl, alwP, alwM, cvP]; done)))))) dX6_leave_156
  · have c1 := bI_0 c1
    refine lv_iconst (v := 1) hx hb dX6_leave_9 (by decide) ?_
    refine lv_goto (tgt := 35) hx hb dX6_leave_10 (by decide) ?_
    refine z_put (v := .int 1) (ty := .int) (ws2 := moW cI q z hi tx pa ke (upd mr 2 1) hs wr) hx hb hts inTX6 tyX6 tyX6_ok nmX6 hown hK hP hD hS (0) (mo_0) rfl 5 (by decide) (hts _ qf_X6_25) (fun _ h9 => h9) rfl (by decide +kernel) (rfl) (rfl) (Nat.le_of_ble_eq_true rfl) dX6_leave_35 (mo_w0 _ mfl_s2) (fun H locs hP hD hS => ?_)
    refine lv_aload_n hx hb dX6_leave_38 rfl (lv_at hl 0 rfl) ?_
    refine va_get (v := .int 1) hx hb hts inTX6 hown hK hP (0) (mo_0) rfl 5 (by decide) (hts _ qf_X6_25) (fun _ h9 => h9) (congrArg (fun x => some (Value.int x)) (upd_eq rfl)) dX6_leave_39 ?_
    refine lv_if_le (tgt := 47) hx hb dX6_leave_42 (by decide) (fun c10 => absurd c10 (by decide)) (fun c10 => ?_)
    have c10 := z_lt c10
    refine lv_iconst (v := 0) hx hb dX6_leave_45 (by decide) ?_
    exact z_iret hx hb hr hlocks hP hD hK hS (Eq.symm (xwf_n (K := kLeave z n mb) (k := 1) (by first | (simp only [kLeave, mP, sP, inP, cl, alwP, alwM, cvP, c1, c10, not_true_eq_false, not_false_eq_true, and_self, and_true, true_and, and_false, false_and, or_true, true_or, or_false, false_or, if_true, if_false, ite_true, ite_false]; done) | (simp [kLeave, mP, sP, inP, cl, alwP, alwM, cvP, c1, c10]; done) | (simp_all [kLeave, mP, sP, inP, cl, alwP, alwM, cvP]; done)) (by decide))) (congrArg (fun y_ => some (Value.int y_)) (Eq.symm (xv_n (K := kLeave z n mb) (k := 1) (by first | (simp only [kLeave, mP, sP, inP, cl, alwP, alwM, cvP, c1, c10, not_true_eq_false, not_false_eq_true, and_self, and_true, true_and, and_false, false_and, or_true, true_or, or_false, false_or, if_true, if_false, ite_true, ite_false]; done) | (simp [kLeave, mP, sP, inP, cl, alwP, alwM, cvP, c1, c10]; done) | (simp_all [kLeave, mP, sP, inP, cl, alwP, alwM, cvP]; done)) (by decide)))) dX6_leave_46
set_option maxHeartbeats 4000000 in
set_option maxRecDepth 100000 in
theorem c_X6_give {n : Nat} (hn : n ≤ 8) (hz : z 5 = nI n) {u : Nat} (hu : u ≤ 6) (hm : mr 0 = nI u) (hB : hBool z) (ga ta sk mn : Int32) : zM l D (zT cI cC cM cB cJ) yX6_give cX6_give 5 (some .int) ({ frames := 4, cells := 0, slots := 0, locals := 96 } : Room) [.ref (q 0), .int ga, .int ta, .int sk, .int mn] (moW cI q z hi tx pa ke mr hs wr) (xwf (kGive z n ga ta sk mn) (moW cI q (dealZ z (cl ga) (cl ta) (cl sk) mn) (svH hi z u) tx pa ke (upd (upd mr 2 0) 0 (nI (min (u + 1) 6))) hs wr) (fun k_ => moW cI q z hi tx pa ke (upd mr 2 k_) hs wr)) (some (.int (xv (kGive z n ga ta sk mn) (valP (z (25 + 16 * cl ga + cl sk)) mn)))) 0 0 := by
  refine z_enter (by decide) (Nat.le_of_ble_eq_true rfl) ?_
  intro p e s m below meth c A S hr hlocks hnm hN hA hK hP hD hS ls hl
  obtain ⟨hx, hb, hml, hown, hts⟩ := id S
  have hl : lv_has ls 5 [(0, .ref (q 0)), (1, .int ga), (2, .int ta), (3, .int sk), (4, .int mn)] := hl
  have hP : va_P D vwCl (moW cI q z hi tx pa ke mr hs wr) s.heap := hP
  have hD : va_D A (moW cI q z hi tx pa ke mr hs wr) := hD
  refine lv_aload_n hx hb dX6_give_0 rfl (lv_at hl 0 rfl) ?_
  refine lv_aload_n hx hb dX6_give_1 rfl (lv_at hl 0 rfl) ?_
  refine lv_iload_n hx hb dX6_give_2 rfl (lv_at hl 1 rfl) ?_
  refine z_callV1 (rest := [.ref (q 0)]) S (c_X6_isMember (n := n) (show n ≤ 8 by omega) (hz) ga) qm_X6_64 v_X6_isMember ⟨Nat.le_of_ble_eq_true rfl, Nat.le_of_ble_eq_true rfl⟩ rfl rfl hN hK hP hD hS hA (0) (mo_0) rfl rfl hl.1 rfl (Nat.le_of_ble_eq_true rfl) dX6_give_3 ⟨Nat.le_of_ble_eq_true rfl, Nat.le_of_ble_eq_true rfl⟩ (fun H locs hP hD hS => ?_)
  refine lv_if_eq (tgt := 24) hx hb dX6_give_6 (by decide) (fun c1 => ?_) (fun c1 => ?_)
  · have c1 := bI_0 c1
    refine lv_iconst (v := 1) hx hb dX6_give_24 (by decide) ?_
    refine lv_goto (tgt := 62) hx hb dX6_give_25 (by decide) ?_
    refine z_put (v := .int 1) (ty := .int) (ws2 := moW cI q z hi tx pa ke (upd mr 2 1) hs wr) hx hb hts inTX6 tyX6 tyX6_ok nmX6 hown hK hP hD hS (0) (mo_0) rfl 5 (by decide) (hts _ qf_X6_25) (fun _ h9 => h9) rfl (by decide +kernel) (rfl) (rfl) (Nat.le_of_ble_eq_true rfl) dX6_give_62 (mo_w0 _ mfl_s2) (fun H locs hP hD hS => ?_)
    refine lv_aload_n hx hb dX6_give_65 rfl (lv_at hl 0 rfl) ?_
    refine va_get (v := .int 1) hx hb hts inTX6 hown hK hP (0) (mo_0) rfl 5 (by decide) (hts _ qf_X6_25) (fun _ h9 => h9) (congrArg (fun x => some (Value.int x)) (upd_eq rfl)) dX6_give_66 ?_
    refine lv_if_le (tgt := 74) hx hb dX6_give_69 (by decide) (fun c2 => absurd c2 (by decide)) (fun c2 => ?_)
    have c2 := z_lt c2
    refine lv_iconst (v := 0) hx hb dX6_give_72 (by decide) ?_
    exact z_iret hx hb hr hlocks hP hD hK hS (Eq.symm (xwf_n (K := kGive z n ga ta sk mn) (k := 1) (by first | (simp only [kGive, mP, sP, inP, cl, alwP, alwM, cvP, c1, c2, not_true_eq_false, not_false_eq_true, and_self, and_true, true_and, and_false, false_and, or_true, true_or, or_false, false_or, if_true, if_false, ite_true, ite_false]; done) | (simp [kGive, mP, sP, inP, cl, alwP, alwM, cvP, c1, c2]; done) | (simp_all [kGive, mP, sP, inP, cl, alwP, alwM, cvP]; done)) (by decide))) (congrArg (fun y_ => some (Value.int y_)) (Eq.symm (xv_n (K := kGive z n ga ta sk mn) (k := 1) (by first | (simp only [kGive, mP, sP, inP, cl, alwP, alwM, cvP, c1, c2, not_true_eq_false, not_false_eq_true, and_self, and_true, true_and, and_false, false_and, or_true, true_or, or_false, false_or, if_true, if_false, ite_true, ite_false]; done) | (simp [kGive, mP, sP, inP, cl, alwP, alwM, cvP, c1, c2]; done) | (simp_all [kGive, mP, sP, inP, cl, alwP, alwM, cvP]; done)) (by decide)))) dX6_give_73
  · have c1 := bI_1 c1
    obtain ⟨g_, hg_, rfl⟩ := mem_nat hn c1
    refine lv_aload_n hx hb dX6_give_9 rfl (lv_at hl 0 rfl) ?_
    refine lv_iload_n hx hb dX6_give_10 rfl (lv_at hl 2 rfl) ?_
    refine z_callV1 (rest := [.ref (q 0)]) S (c_X6_isMember (n := n) (show n ≤ 8 by omega) (hz) ta) qm_X6_64 v_X6_isMember ⟨Nat.le_of_ble_eq_true rfl, Nat.le_of_ble_eq_true rfl⟩ rfl rfl hN hK hP hD hS hA (0) (mo_0) rfl rfl hl.1 rfl (Nat.le_of_ble_eq_true rfl) dX6_give_11 ⟨Nat.le_of_ble_eq_true rfl, Nat.le_of_ble_eq_true rfl⟩ (fun H locs hP hD hS => ?_)
    refine lv_if_eq (tgt := 24) hx hb dX6_give_14 (by decide) (fun c3 => ?_) (fun c3 => ?_)
    · have c3 := bI_0 c3
      refine lv_iconst (v := 1) hx hb dX6_give_24 (by decide) ?_
      refine lv_goto (tgt := 62) hx hb dX6_give_25 (by decide) ?_
      refine z_put (v := .int 1) (ty := .int) (ws2 := moW cI q z hi tx pa ke (upd mr 2 1) hs wr) hx hb hts inTX6 tyX6 tyX6_ok nmX6 hown hK hP hD hS (0) (mo_0) rfl 5 (by decide) (hts _ qf_X6_25) (fun _ h9 => h9) rfl (by decide +kernel) (rfl) (rfl) (Nat.le_of_ble_eq_true rfl) dX6_give_62 (mo_w0 _ mfl_s2) (fun H locs hP hD hS => ?_)
      refine lv_aload_n hx hb dX6_give_65 rfl (lv_at hl 0 rfl) ?_
      refine va_get (v := .int 1) hx hb hts inTX6 hown hK hP (0) (mo_0) rfl 5 (by decide) (hts _ qf_X6_25) (fun _ h9 => h9) (congrArg (fun x => some (Value.int x)) (upd_eq rfl)) dX6_give_66 ?_
      refine lv_if_le (tgt := 74) hx hb dX6_give_69 (by decide) (fun c4 => absurd c4 (by decide)) (fun c4 => ?_)
      have c4 := z_lt c4
      refine lv_iconst (v := 0) hx hb dX6_give_72 (by decide) ?_
      exact z_iret hx hb hr hlocks hP hD hK hS (Eq.symm (xwf_n (K := kGive z n (nI g_) ta sk mn) (k := 1) (by first | (simp only [kGive, mP, sP, inP, cl, alwP, alwM, cvP, c1, nI_clamp (show g_ < 2 ^ 31 by omega), c3, c4, not_true_eq_false, not_false_eq_true, and_self, and_true, true_and, and_false, false_and, or_true, true_or, or_false, false_or, if_true, if_false, ite_true, ite_false]; done) | (simp [kGive, mP, sP, inP, cl, alwP, alwM, cvP, c1, nI_clamp (show g_ < 2 ^ 31 by omega), c3, c4]; done) | (simp_all [kGive, mP, sP, inP, cl, alwP, alwM, cvP]; done)) (by decide))) (congrArg (fun y_ => some (Value.int y_)) (Eq.symm (xv_n (K := kGive z n (nI g_) ta sk mn) (k := 1) (by first | (simp only [kGive, mP, sP, inP, cl, alwP, alwM, cvP, c1, nI_clamp (show g_ < 2 ^ 31 by omega), c3, c4, not_true_eq_false, not_false_eq_true, and_self, and_true, true_and, and_false, false_and, or_true, true_or, or_false, false_or, if_true, if_false, ite_true, ite_false]; done) | (simp [kGive, mP, sP, inP, cl, alwP, alwM, cvP, c1, nI_clamp (show g_ < 2 ^ 31 by omega), c3, c4]; done) | (simp_all [kGive, mP, sP, inP, cl, alwP, alwM, cvP]; done)) (by decide)))) dX6_give_73
    · have c3 := bI_1 c3
      obtain ⟨t_, ht_, rfl⟩ := mem_nat hn c3
      refine lv_iload_n hx hb dX6_give_17 rfl (lv_at hl 3 rfl) ?_
      refine z_callS1 (rest := [.ref (q 0)]) S (c_X6_isSkill sk) qm_X6_85 t_X6_isSkill ⟨Nat.le_of_ble_eq_true rfl, Nat.le_of_ble_eq_true rfl⟩ rfl rfl hN hK hP hD hS hA rfl hl.1 rfl (Nat.le_of_ble_eq_true rfl) dX6_give_18 ⟨Nat.le_of_ble_eq_true rfl, Nat.le_of_ble_eq_true rfl⟩ (fun H locs hP hD hS => ?_)
      refine lv_if_ne (tgt := 28) hx hb dX6_give_21 (by decide) (fun c5 => ?_) (fun c5 => ?_)
      · have c5 := bI_1 c5
        obtain ⟨k_, hk_, rfl⟩ := skl_nat c5
        refine lv_iload_n hx hb dX6_give_28 rfl (lv_at hl 1 rfl) ?_
        refine lv_iload_n hx hb dX6_give_29 rfl (lv_at hl 2 rfl) ?_
        refine lv_icmp_eq (tgt := 41) hx hb dX6_give_30 (by decide) (fun c6 => ?_) (fun c6 => ?_)
        · skip
          refine lv_iconst (v := 2) hx hb dX6_give_41 (by decide) ?_
          refine lv_goto (tgt := 62) hx hb dX6_give_42 (by decide) ?_
          refine z_put (v := .int 2) (ty := .int) (ws2 := moW cI q z hi tx pa ke (upd mr 2 2) hs wr) hx hb hts inTX6 tyX6 tyX6_ok nmX6 hown hK hP hD hS (0) (mo_0) rfl 5 (by decide) (hts _ qf_X6_25) (fun _ h9 => h9) rfl (by decide +kernel) (rfl) (rfl) (Nat.le_of_ble_eq_true rfl) dX6_give_62 (mo_w0 _ mfl_s2) (fun H locs hP hD hS => ?_)
          refine lv_aload_n hx hb dX6_give_65 rfl (lv_at hl 0 rfl) ?_
          refine va_get (v := .int 2) hx hb hts inTX6 hown hK hP (0) (mo_0) rfl 5 (by decide) (hts _ qf_X6_25) (fun _ h9 => h9) (congrArg (fun x => some (Value.int x)) (upd_eq rfl)) dX6_give_66 ?_
          refine lv_if_le (tgt := 74) hx hb dX6_give_69 (by decide) (fun c7 => absurd c7 (by decide)) (fun c7 => ?_)
          have c7 := z_lt c7
          refine lv_iconst (v := 0) hx hb dX6_give_72 (by decide) ?_
          exact z_iret hx hb hr hlocks hP hD hK hS (Eq.symm (xwf_n (K := kGive z n (nI g_) (nI t_) (nI k_) mn) (k := 2) (by first | (simp only [kGive, mP, sP, inP, cl, alwP, alwM, cvP, c1, nI_clamp (show g_ < 2 ^ 31 by omega), c3, nI_clamp (show t_ < 2 ^ 31 by omega), c5, nI_clamp (show k_ < 2 ^ 31 by omega), c6, c7, not_true_eq_false, not_false_eq_true, and_self, and_true, true_and, and_false, false_and, or_true, true_or, or_false, false_or, if_true, if_false, ite_true, ite_false]; done) | (simp [kGive, mP, sP, inP, cl, alwP, alwM, cvP, c1, nI_clamp (show g_ < 2 ^ 31 by omega), c3, nI_clamp (show t_ < 2 ^ 31 by omega), c5, nI_clamp (show k_ < 2 ^ 31 by omega), c6, c7]; done) | (simp_all [kGive, mP, sP, inP, cl, alwP, alwM, cvP]; done)) (by decide))) (congrArg (fun y_ => some (Value.int y_)) (Eq.symm (xv_n (K := kGive z n (nI g_) (nI t_) (nI k_) mn) (k := 2) (by first | (simp only [kGive, mP, sP, inP, cl, alwP, alwM, cvP, c1, nI_clamp (show g_ < 2 ^ 31 by omega), c3, nI_clamp (show t_ < 2 ^ 31 by omega), c5, nI_clamp (show k_ < 2 ^ 31 by omega), c6, c7, not_true_eq_false, not_false_eq_true, and_self, and_true, true_and, and_false, false_and, or_true, true_or, or_false, false_or, if_true, if_false, ite_true, ite_false]; done) | (simp [kGive, mP, sP, inP, cl, alwP, alwM, cvP, c1, nI_clamp (show g_ < 2 ^ 31 by omega), c3, nI_clamp (show t_ < 2 ^ 31 by omega), c5, nI_clamp (show k_ < 2 ^ 31 by omega), c6, c7]; done) | (simp_all [kGive, mP, sP, inP, cl, alwP, alwM, cvP]; done)) (by decide)))) dX6_give_73
        · skip
          refine lv_iload hx hb dX6_give_33 (lv_at hl 4 rfl) ?_
          refine z_callS1 (rest := [.ref (q 0)]) S (c_X6_areMinutes mn) qm_X6_88 t_X6_areMinutes ⟨Nat.le_of_ble_eq_true rfl, Nat.le_of_ble_eq_true rfl⟩ rfl rfl hN hK hP hD hS hA rfl hl.1 rfl (Nat.le_of_ble_eq_true rfl) dX6_give_35 ⟨Nat.le_of_ble_eq_true rfl, Nat.le_of_ble_eq_true rfl⟩ (fun H locs hP hD hS => ?_)
          refine lv_if_ne (tgt := 45) hx hb dX6_give_38 (by decide) (fun c8 => ?_) (fun c8 => ?_)
          · have c8 := bI_1 c8
            refine lv_aload_n hx hb dX6_give_45 rfl (lv_at hl 0 rfl) ?_
            refine lv_iload_n hx hb dX6_give_46 rfl (lv_at hl 1 rfl) ?_
            refine lv_iload_n hx hb dX6_give_47 rfl (lv_at hl 2 rfl) ?_
            refine lv_iload_n hx hb dX6_give_48 rfl (lv_at hl 3 rfl) ?_
            refine lv_iload hx hb dX6_give_49 (lv_at hl 4 rfl) ?_
            refine z_callV1 (rest := [.ref (q 0)]) S (c_X6_canDeal (hB) g_ t_ k_ (show g_ < 8 by omega) (show t_ < 8 by omega) (show k_ < 5 by omega) mn) qm_X6_91 v_X6_canDeal ⟨Nat.le_of_ble_eq_true rfl, Nat.le_of_ble_eq_true rfl⟩ rfl rfl hN hK hP hD hS hA (0) (mo_0) rfl rfl hl.1 rfl (Nat.le_of_ble_eq_true rfl) dX6_give_51 ⟨Nat.le_of_ble_eq_true rfl, Nat.le_of_ble_eq_true rfl⟩ (fun H locs hP hD hS => ?_)
            refine lv_if_eq (tgt := 61) hx hb dX6_give_54 (by decide) (fun c9 => ?_) (fun c9 => ?_)
            · have c9 := bI_0 c9
              refine lv_iconst (v := 3) hx hb dX6_give_61 (by decide) ?_
              refine z_put (v := .int 3) (ty := .int) (ws2 := moW cI q z hi tx pa ke (upd mr 2 3) hs wr) hx hb hts inTX6 tyX6 tyX6_ok nmX6 hown hK hP hD hS (0) (mo_0) rfl 5 (by decide) (hts _ qf_X6_25) (fun _ h9 => h9) rfl (by decide +kernel) (rfl) (rfl) (Nat.le_of_ble_eq_true rfl) dX6_give_62 (mo_w0 _ mfl_s2) (fun H locs hP hD hS => ?_)
              refine lv_aload_n hx hb dX6_give_65 rfl (lv_at hl 0 rfl) ?_
              refine va_get (v := .int 3) hx hb hts inTX6 hown hK hP (0) (mo_0) rfl 5 (by decide) (hts _ qf_X6_25) (fun _ h9 => h9) (congrArg (fun x => some (Value.int x)) (upd_eq rfl)) dX6_give_66 ?_
              have hgt_ : g_ ≠ t_ := fun q => c6 (by rw [q])
              refine lv_if_le (tgt := 74) hx hb dX6_give_69 (by decide) (fun c10 => absurd c10 (by decide)) (fun c10 => ?_)
              have c10 := z_lt c10
              refine lv_iconst (v := 0) hx hb dX6_give_72 (by decide) ?_
              exact z_iret hx hb hr hlocks hP hD hK hS (Eq.symm (xwf_n (K := kGive z n (nI g_) (nI t_) (nI k_) mn) (k := 3) (by simp only [kGive, cl, nI_clamp (show g_ < 2 ^ 31 by omega), nI_clamp (show t_ < 2 ^ 31 by omega), nI_clamp (show k_ < 2 ^ 31 by omega)]; rw [if_pos c1, if_pos c3, if_pos c5, if_neg c6, if_pos c8, if_neg (fun q_ => c9 ((cd_alw (n := n) c1 c3 c6).mpr q_))]) (by decide))) (congrArg (fun y_ => some (Value.int y_)) (Eq.symm (xv_n (K := kGive z n (nI g_) (nI t_) (nI k_) mn) (k := 3) (by simp only [kGive, cl, nI_clamp (show g_ < 2 ^ 31 by omega), nI_clamp (show t_ < 2 ^ 31 by omega), nI_clamp (show k_ < 2 ^ 31 by omega)]; rw [if_pos c1, if_pos c3, if_pos c5, if_neg c6, if_pos c8, if_neg (fun q_ => c9 ((cd_alw (n := n) c1 c3 c6).mpr q_))]) (by decide)))) dX6_give_73
            · have c9 := bI_1 c9
              refine lv_iconst (v := 0) hx hb dX6_give_57 (by decide) ?_
              refine lv_goto (tgt := 62) hx hb dX6_give_58 (by decide) ?_
              refine z_put (v := .int 0) (ty := .int) (ws2 := moW cI q z hi tx pa ke (upd mr 2 0) hs wr) hx hb hts inTX6 tyX6 tyX6_ok nmX6 hown hK hP hD hS (0) (mo_0) rfl 5 (by decide) (hts _ qf_X6_25) (fun _ h9 => h9) rfl (by decide +kernel) (rfl) (rfl) (Nat.le_of_ble_eq_true rfl) dX6_give_62 (mo_w0 _ mfl_s2) (fun H locs hP hD hS => ?_)
              refine lv_aload_n hx hb dX6_give_65 rfl (lv_at hl 0 rfl) ?_
              refine va_get (v := .int 0) hx hb hts inTX6 hown hK hP (0) (mo_0) rfl 5 (by decide) (hts _ qf_X6_25) (fun _ h9 => h9) (congrArg (fun x => some (Value.int x)) (upd_eq rfl)) dX6_give_66 ?_
              have hgt_ : g_ ≠ t_ := fun q => c6 (by rw [q])
              refine lv_if_le (tgt := 74) hx hb dX6_give_69 (by decide) (fun c11 => ?_) (fun c11 => absurd (by decide) c11)
              have c11 := z_nlt c11
              refine lv_aload_n hx hb dX6_give_74 rfl (lv_at hl 0 rfl) ?_
              refine z_callV0 (rest := []) S (c_X6_save (u := u) (by omega) ((upd_ne (by omega)).trans (hm))) qm_X6_58 v_X6_save ⟨Nat.le_of_ble_eq_true rfl, Nat.le_of_ble_eq_true rfl⟩ rfl rfl hN hK hP hD hS hA (0) (mo_0) rfl rfl hl.1 rfl (Nat.le_of_ble_eq_true rfl) dX6_give_75 ⟨Nat.le_of_ble_eq_true rfl, Nat.le_of_ble_eq_true rfl⟩ (fun H locs hP hD hS => ?_)
              refine lv_aload_n hx hb dX6_give_78 rfl (lv_at hl 0 rfl) ?_
              refine lv_iload_n hx hb dX6_give_79 rfl (lv_at hl 1 rfl) ?_
              refine lv_iload_n hx hb dX6_give_80 rfl (lv_at hl 2 rfl) ?_
              refine lv_iload_n hx hb dX6_give_81 rfl (lv_at hl 3 rfl) ?_
              refine lv_iload hx hb dX6_give_82 (lv_at hl 4 rfl) ?_
              refine z_callV1 (rest := []) S (c_X6_deals g_ t_ k_ (show g_ < 8 by omega) (show t_ < 8 by omega) (by first | assumption | omega) (show k_ < 5 by omega) mn) qm_X6_95 v_X6_deals ⟨Nat.le_of_ble_eq_true rfl, Nat.le_of_ble_eq_true rfl⟩ rfl rfl hN hK hP hD hS hA (0) (mo_0) rfl rfl hl.1 rfl (Nat.le_of_ble_eq_true rfl) dX6_give_84 ⟨Nat.le_of_ble_eq_true rfl, Nat.le_of_ble_eq_true rfl⟩ (fun H locs hP hD hS => ?_)
              exact z_iret hx hb hr hlocks hP hD hK hS (Eq.trans (b := moW cI q (dealZ z (cl (nI g_)) (cl (nI t_)) (cl (nI k_)) mn) (svH hi z u) tx pa ke (upd (upd mr 2 0) 0 (nI (min (u + 1) 6))) hs wr) (by simp only [cl, nI_clamp (show g_ < 2 ^ 31 by omega), nI_clamp (show t_ < 2 ^ 31 by omega), nI_clamp (show k_ < 2 ^ 31 by omega)]) (Eq.symm (xwf_0 (K := kGive z n (nI g_) (nI t_) (nI k_) mn) (by simp only [kGive, cl, nI_clamp (show g_ < 2 ^ 31 by omega), nI_clamp (show t_ < 2 ^ 31 by omega), nI_clamp (show k_ < 2 ^ 31 by omega)]; rw [if_pos c1, if_pos c3, if_pos c5, if_neg c6, if_pos c8, if_pos ((cd_alw (n := n) c1 c3 c6).mp c9)])))) (congrArg (fun y_ => some (Value.int y_)) (Eq.trans (b := valP (z (25 + 16 * cl (nI g_) + cl (nI k_))) mn) (by simp only [cl, nI_clamp (show g_ < 2 ^ 31 by omega), nI_clamp (show t_ < 2 ^ 31 by omega), nI_clamp (show k_ < 2 ^ 31 by omega)]) (Eq.symm (xv_0 (K := kGive z n (nI g_) (nI t_) (nI k_) mn) (by simp only [kGive, cl, nI_clamp (show g_ < 2 ^ 31 by omega), nI_clamp (show t_ < 2 ^ 31 by omega), nI_clamp (show k_ < 2 ^ 31 by omega)]; rw [if_pos c1, if_pos c3, if_pos c5, if_neg c6, if_pos c8, if_pos ((cd_alw (n := n) c1 c3 c6).mp c9)]))))) dX6_give_87
          · have c8 := bI_0 c8
            refine lv_iconst (v := 2) hx hb dX6_give_41 (by decide) ?_
            refine lv_goto (tgt := 62) hx hb dX6_give_42 (by decide) ?_
            refine z_put (v := .int 2) (ty := .int) (ws2 := moW cI q z hi tx pa ke (upd mr 2 2) hs wr) hx hb hts inTX6 tyX6 tyX6_ok nmX6 hown hK hP hD hS (0) (mo_0) rfl 5 (by decide) (hts _ qf_X6_25) (fun _ h9 => h9) rfl (by decide +kernel) (rfl) (rfl) (Nat.le_of_ble_eq_true rfl) dX6_give_62 (mo_w0 _ mfl_s2) (fun H locs hP hD hS => ?_)
            refine lv_aload_n hx hb dX6_give_65 rfl (lv_at hl 0 rfl) ?_
            refine va_get (v := .int 2) hx hb hts inTX6 hown hK hP (0) (mo_0) rfl 5 (by decide) (hts _ qf_X6_25) (fun _ h9 => h9) (congrArg (fun x => some (Value.int x)) (upd_eq rfl)) dX6_give_66 ?_
            have hgt_ : g_ ≠ t_ := fun q => c6 (by rw [q])
            refine lv_if_le (tgt := 74) hx hb dX6_give_69 (by decide) (fun c12 => absurd c12 (by decide)) (fun c12 => ?_)
            have c12 := z_lt c12
            refine lv_iconst (v := 0) hx hb dX6_give_72 (by decide) ?_
            exact z_iret hx hb hr hlocks hP hD hK hS (Eq.symm (xwf_n (K := kGive z n (nI g_) (nI t_) (nI k_) mn) (k := 2) (by first | (simp only [kGive, mP, sP, inP, cl, alwP, alwM, cvP, c1, nI_clamp (show g_ < 2 ^ 31 by omega), c3, nI_clamp (show t_ < 2 ^ 31 by omega), c5, nI_clamp (show k_ < 2 ^ 31 by omega), c6, c8, c12, not_true_eq_false, not_false_eq_true, and_self, and_true, true_and, and_false, false_and, or_true, true_or, or_false, false_or, if_true, if_false, ite_true, ite_false]; done) | (simp [kGive, mP, sP, inP, cl, alwP, alwM, cvP, c1, nI_clamp (show g_ < 2 ^ 31 by omega), c3, nI_clamp (show t_ < 2 ^ 31 by omega), c5, nI_clamp (show k_ < 2 ^ 31 by omega), c6, c8, c12]; done) | (simp_all [kGive, mP, sP, inP, cl, alwP, alwM, cvP]; done)) (by decide))) (congrArg (fun y_ => some (Value.int y_)) (Eq.symm (xv_n (K := kGive z n (nI g_) (nI t_) (nI k_) mn) (k := 2) (by first | (simp only [kGive, mP, sP, inP, cl, alwP, alwM, cvP, c1, nI_clamp (show g_ < 2 ^ 31 by omega), c3, nI_clamp (show t_ < 2 ^ 31 by omega), c5, nI_clamp (show k_ < 2 ^ 31 by omega), c6, c8, c12, not_true_eq_false, not_false_eq_true, and_self, and_true, true_and, and_false, false_and, or_true, true_or, or_false, false_or, if_true, if_false, ite_true, ite_false]; done) | (simp [kGive, mP, sP, inP, cl, alwP, alwM, cvP, c1, nI_clamp (show g_ < 2 ^ 31 by omega), c3, nI_clamp (show t_ < 2 ^ 31 by omega), c5, nI_clamp (show k_ < 2 ^ 31 by omega), c6, c8, c12]; done) | (simp_all [kGive, mP, sP, inP, cl, alwP, alwM, cvP]; done)) (by decide)))) dX6_give_73
      · have c5 := bI_0 c5
        refine lv_iconst (v := 1) hx hb dX6_give_24 (by decide) ?_
        refine lv_goto (tgt := 62) hx hb dX6_give_25 (by decide) ?_
        refine z_put (v := .int 1) (ty := .int) (ws2 := moW cI q z hi tx pa ke (upd mr 2 1) hs wr) hx hb hts inTX6 tyX6 tyX6_ok nmX6 hown hK hP hD hS (0) (mo_0) rfl 5 (by decide) (hts _ qf_X6_25) (fun _ h9 => h9) rfl (by decide +kernel) (rfl) (rfl) (Nat.le_of_ble_eq_true rfl) dX6_give_62 (mo_w0 _ mfl_s2) (fun H locs hP hD hS => ?_)
        refine lv_aload_n hx hb dX6_give_65 rfl (lv_at hl 0 rfl) ?_
        refine va_get (v := .int 1) hx hb hts inTX6 hown hK hP (0) (mo_0) rfl 5 (by decide) (hts _ qf_X6_25) (fun _ h9 => h9) (congrArg (fun x => some (Value.int x)) (upd_eq rfl)) dX6_give_66 ?_
        refine lv_if_le (tgt := 74) hx hb dX6_give_69 (by decide) (fun c13 => absurd c13 (by decide)) (fun c13 => ?_)
        have c13 := z_lt c13
        refine lv_iconst (v := 0) hx hb dX6_give_72 (by decide) ?_
        exact z_iret hx hb hr hlocks hP hD hK hS (Eq.symm (xwf_n (K := kGive z n (nI g_) (nI t_) sk mn) (k := 1) (by first | (simp only [kGive, mP, sP, inP, cl, alwP, alwM, cvP, c1, nI_clamp (show g_ < 2 ^ 31 by omega), c3, nI_clamp (show t_ < 2 ^ 31 by omega), c5, c13, not_true_eq_false, not_false_eq_true, and_self, and_true, true_and, and_false, false_and, or_true, true_or, or_false, false_or, if_true, if_false, ite_true, ite_false]; done) | (simp [kGive, mP, sP, inP, cl, alwP, alwM, cvP, c1, nI_clamp (show g_ < 2 ^ 31 by omega), c3, nI_clamp (show t_ < 2 ^ 31 by omega), c5, c13]; done) | (simp_all [kGive, mP, sP, inP, cl, alwP, alwM, cvP]; done)) (by decide))) (congrArg (fun y_ => some (Value.int y_)) (Eq.symm (xv_n (K := kGive z n (nI g_) (nI t_) sk mn) (k := 1) (by first | (simp only [kGive, mP, sP, inP, cl, alwP, alwM, cvP, c1, nI_clamp (show g_ < 2 ^ 31 by omega), c3, nI_clamp (show t_ < 2 ^ 31 by omega), c5, c13, not_true_eq_false, not_false_eq_true, and_self, and_true, true_and, and_false, false_and, or_true, true_or, or_false, false_or, if_true, if_false, ite_true, ite_false]; done) | (simp [kGive, mP, sP, inP, cl, alwP, alwM, cvP, c1, nI_clamp (show g_ < 2 ^ 31 by omega), c3, nI_clamp (show t_ < 2 ^ 31 by omega), c5, c13]; done) | (simp_all [kGive, mP, sP, inP, cl, alwP, alwM, cvP]; done)) (by decide)))) dX6_give_73
set_option maxHeartbeats 4000000 in
set_option maxRecDepth 100000 in
theorem c_X6_donate {n : Nat} (hn : n ≤ 8) (hz : z 5 = nI n) {u : Nat} (hu : u ≤ 6) (hm : mr 0 = nI u) (hB : hBool z) (mb mn : Int32) : zM l D (zT cI cC cM cB cJ) yX6_donate cX6_donate 3 (some .int) ({ frames := 2, cells := 0, slots := 0, locals := 43 } : Room) [.ref (q 0), .int mb, .int mn] (moW cI q z hi tx pa ke mr hs wr) (xwf (kDonate z n mb mn) (moW cI q (qz_pay z (cl mb) mn) (svH hi z u) tx pa ke (upd (upd mr 2 0) 0 (nI (min (u + 1) 6))) hs wr) (fun k_ => moW cI q z hi tx pa ke (upd mr 2 k_) hs wr)) (some (.int (xv (kDonate z n mb mn) (z (14 + 16 * cl mb + 1) + (-mn))))) 0 0 := by
  refine z_enter (by decide) (Nat.le_of_ble_eq_true rfl) ?_
  intro p e s m below meth c A S hr hlocks hnm hN hA hK hP hD hS ls hl
  obtain ⟨hx, hb, hml, hown, hts⟩ := id S
  have hl : lv_has ls 3 [(0, .ref (q 0)), (1, .int mb), (2, .int mn)] := hl
  have hP : va_P D vwCl (moW cI q z hi tx pa ke mr hs wr) s.heap := hP
  have hD : va_D A (moW cI q z hi tx pa ke mr hs wr) := hD
  refine lv_aload_n hx hb dX6_donate_0 rfl (lv_at hl 0 rfl) ?_
  refine lv_aload_n hx hb dX6_donate_1 rfl (lv_at hl 0 rfl) ?_
  refine lv_iload_n hx hb dX6_donate_2 rfl (lv_at hl 1 rfl) ?_
  refine z_callV1 (rest := [.ref (q 0)]) S (c_X6_isMember (n := n) (show n ≤ 8 by omega) (hz) mb) qm_X6_64 v_X6_isMember ⟨Nat.le_of_ble_eq_true rfl, Nat.le_of_ble_eq_true rfl⟩ rfl rfl hN hK hP hD hS hA (0) (mo_0) rfl rfl hl.1 rfl (Nat.le_of_ble_eq_true rfl) dX6_donate_3 ⟨Nat.le_of_ble_eq_true rfl, Nat.le_of_ble_eq_true rfl⟩ (fun H locs hP hD hS => ?_)
  refine lv_if_ne (tgt := 13) hx hb dX6_donate_6 (by decide) (fun c1 => ?_) (fun c1 => ?_)
  · have c1 := bI_1 c1
    obtain ⟨j, hj, rfl⟩ := mem_nat hn c1
    refine lv_iload_n hx hb dX6_donate_13 rfl (lv_at hl 2 rfl) ?_
    refine lv_iconst (v := 1) hx hb dX6_donate_14 (by decide) ?_
    refine lv_sipush (v := 999) hx hb dX6_donate_15 (by decide) ?_
    refine z_callS1 (rest := [.ref (q 0)]) S (c_X6_within mn 1 999) qm_X6_32 t_X6_within ⟨Nat.le_of_ble_eq_true rfl, Nat.le_of_ble_eq_true rfl⟩ rfl rfl hN hK hP hD hS hA rfl hl.1 rfl (Nat.le_of_ble_eq_true rfl) dX6_donate_18 ⟨Nat.le_of_ble_eq_true rfl, Nat.le_of_ble_eq_true rfl⟩ (fun H locs hP hD hS => ?_)
    refine lv_if_ne (tgt := 28) hx hb dX6_donate_21 (by decide) (fun c2 => ?_) (fun c2 => ?_)
    · have c2 := bI_1 c2
      refine lv_aload_n hx hb dX6_donate_28 rfl (lv_at hl 0 rfl) ?_
      refine lv_iload_n hx hb dX6_donate_29 rfl (lv_at hl 1 rfl) ?_
      refine z_callV1 (rest := [.ref (q 0)]) S (c_X6_isThere j (show j < 8 by omega) ((hB) j (show j < 8 by omega)).1) qm_X6_68 v_X6_isThere ⟨Nat.le_of_ble_eq_true rfl, Nat.le_of_ble_eq_true rfl⟩ rfl rfl hN hK hP hD hS hA (0) (mo_0) rfl rfl hl.1 rfl (Nat.le_of_ble_eq_true rfl) dX6_donate_30 ⟨Nat.le_of_ble_eq_true rfl, Nat.le_of_ble_eq_true rfl⟩ (fun H locs hP hD hS => ?_)
      refine lv_if_eq (tgt := 50) hx hb dX6_donate_33 (by decide) (fun c3 => ?_) (fun c3 => ?_)
      · have c3 := bI_0n c3
        refine lv_iconst (v := 3) hx hb dX6_donate_50 (by decide) ?_
        refine z_put (v := .int 3) (ty := .int) (ws2 := moW cI q z hi tx pa ke (upd mr 2 3) hs wr) hx hb hts inTX6 tyX6 tyX6_ok nmX6 hown hK hP hD hS (0) (mo_0) rfl 5 (by decide) (hts _ qf_X6_25) (fun _ h9 => h9) rfl (by decide +kernel) (rfl) (rfl) (Nat.le_of_ble_eq_true rfl) dX6_donate_51 (mo_w0 _ mfl_s2) (fun H locs hP hD hS => ?_)
        refine lv_aload_n hx hb dX6_donate_54 rfl (lv_at hl 0 rfl) ?_
        refine va_get (v := .int 3) hx hb hts inTX6 hown hK hP (0) (mo_0) rfl 5 (by decide) (hts _ qf_X6_25) (fun _ h9 => h9) (congrArg (fun x => some (Value.int x)) (upd_eq rfl)) dX6_donate_55 ?_
        refine lv_if_le (tgt := 63) hx hb dX6_donate_58 (by decide) (fun c4 => absurd c4 (by decide)) (fun c4 => ?_)
        have c4 := z_lt c4
        refine lv_iconst (v := 0) hx hb dX6_donate_61 (by decide) ?_
        exact z_iret hx hb hr hlocks hP hD hK hS (Eq.symm (xwf_n (K := kDonate z n (nI j) mn) (k := 3) (by first | (simp only [kDonate, mP, sP, inP, cl, alwP, alwM, cvP, c1, nI_clamp (show j < 2 ^ 31 by omega), c2, c3, c4, not_true_eq_false, not_false_eq_true, and_self, and_true, true_and, and_false, false_and, or_true, true_or, or_false, false_or, if_true, if_false, ite_true, ite_false]; done) | (simp [kDonate, mP, sP, inP, cl, alwP, alwM, cvP, c1, nI_clamp (show j < 2 ^ 31 by omega), c2, c3, c4]; done) | (simp_all [kDonate, mP, sP, inP, cl, alwP, alwM, cvP]; done)) (by decide))) (congrArg (fun y_ => some (Value.int y_)) (Eq.symm (xv_n (K := kDonate z n (nI j) mn) (k := 3) (by first | (simp only [kDonate, mP, sP, inP, cl, alwP, alwM, cvP, c1, nI_clamp (show j < 2 ^ 31 by omega), c2, c3, c4, not_true_eq_false, not_false_eq_true, and_self, and_true, true_and, and_false, false_and, or_true, true_or, or_false, false_or, if_true, if_false, ite_true, ite_false]; done) | (simp [kDonate, mP, sP, inP, cl, alwP, alwM, cvP, c1, nI_clamp (show j < 2 ^ 31 by omega), c2, c3, c4]; done) | (simp_all [kDonate, mP, sP, inP, cl, alwP, alwM, cvP]; done)) (by decide)))) dX6_donate_62
      · have c3 := bI_1 c3
        refine lv_aload_n hx hb dX6_donate_36 rfl (lv_at hl 0 rfl) ?_
        refine lv_iload_n hx hb dX6_donate_37 rfl (lv_at hl 1 rfl) ?_
        refine lv_iconst (v := 1) hx hb dX6_donate_38 (by decide) ?_
        refine z_callV1 (rest := [.ref (q 0)]) S (c_X6_of j 1 (14 + 16 * j + 1) (show j < 8 by omega) (show 1 < 16 by decide) (by omega) (z (14 + 16 * j + 1)) (rfl)) qm_X6_36 v_X6_of ⟨Nat.le_of_ble_eq_true rfl, Nat.le_of_ble_eq_true rfl⟩ rfl rfl hN hK hP hD hS hA (0) (mo_0) rfl rfl hl.1 rfl (Nat.le_of_ble_eq_true rfl) dX6_donate_39 ⟨Nat.le_of_ble_eq_true rfl, Nat.le_of_ble_eq_true rfl⟩ (fun H locs hP hD hS => ?_)
        refine lv_iload_n hx hb dX6_donate_42 rfl (lv_at hl 2 rfl) ?_
        refine lv_icmp_lt (tgt := 50) hx hb dX6_donate_43 (by decide) (fun c5 => ?_) (fun c5 => ?_)
        · skip
          refine lv_iconst (v := 3) hx hb dX6_donate_50 (by decide) ?_
          refine z_put (v := .int 3) (ty := .int) (ws2 := moW cI q z hi tx pa ke (upd mr 2 3) hs wr) hx hb hts inTX6 tyX6 tyX6_ok nmX6 hown hK hP hD hS (0) (mo_0) rfl 5 (by decide) (hts _ qf_X6_25) (fun _ h9 => h9) rfl (by decide +kernel) (rfl) (rfl) (Nat.le_of_ble_eq_true rfl) dX6_donate_51 (mo_w0 _ mfl_s2) (fun H locs hP hD hS => ?_)
          refine lv_aload_n hx hb dX6_donate_54 rfl (lv_at hl 0 rfl) ?_
          refine va_get (v := .int 3) hx hb hts inTX6 hown hK hP (0) (mo_0) rfl 5 (by decide) (hts _ qf_X6_25) (fun _ h9 => h9) (congrArg (fun x => some (Value.int x)) (upd_eq rfl)) dX6_donate_55 ?_
          refine lv_if_le (tgt := 63) hx hb dX6_donate_58 (by decide) (fun c6 => absurd c6 (by decide)) (fun c6 => ?_)
          have c6 := z_lt c6
          refine lv_iconst (v := 0) hx hb dX6_donate_61 (by decide) ?_
          exact z_iret hx hb hr hlocks hP hD hK hS (Eq.symm (xwf_n (K := kDonate z n (nI j) mn) (k := 3) (by first | (simp only [kDonate, mP, sP, inP, cl, alwP, alwM, cvP, c1, nI_clamp (show j < 2 ^ 31 by omega), c2, c3, c5, c6, not_true_eq_false, not_false_eq_true, and_self, and_true, true_and, and_false, false_and, or_true, true_or, or_false, false_or, if_true, if_false, ite_true, ite_false]; done) | (simp [kDonate, mP, sP, inP, cl, alwP, alwM, cvP, c1, nI_clamp (show j < 2 ^ 31 by omega), c2, c3, c5, c6]; done) | (simp_all [kDonate, mP, sP, inP, cl, alwP, alwM, cvP]; done)) (by decide))) (congrArg (fun y_ => some (Value.int y_)) (Eq.symm (xv_n (K := kDonate z n (nI j) mn) (k := 3) (by first | (simp only [kDonate, mP, sP, inP, cl, alwP, alwM, cvP, c1, nI_clamp (show j < 2 ^ 31 by omega), c2, c3, c5, c6, not_true_eq_false, not_false_eq_true, and_self, and_true, true_and, and_false, false_and, or_true, true_or, or_false, false_or, if_true, if_false, ite_true, ite_false]; done) | (simp [kDonate, mP, sP, inP, cl, alwP, alwM, cvP, c1, nI_clamp (show j < 2 ^ 31 by omega), c2, c3, c5, c6]; done) | (simp_all [kDonate, mP, sP, inP, cl, alwP, alwM, cvP]; done)) (by decide)))) dX6_donate_62
        · skip
          refine lv_iconst (v := 0) hx hb dX6_donate_46 (by decide) ?_
          refine lv_goto (tgt := 51) hx hb dX6_donate_47 (by decide) ?_
          refine z_put (v := .int 0) (ty := .int) (ws2 := moW cI q z hi tx pa ke (upd mr 2 0) hs wr) hx hb hts inTX6 tyX6 tyX6_ok nmX6 hown hK hP hD hS (0) (mo_0) rfl 5 (by decide) (hts _ qf_X6_25) (fun _ h9 => h9) rfl (by decide +kernel) (rfl) (rfl) (Nat.le_of_ble_eq_true rfl) dX6_donate_51 (mo_w0 _ mfl_s2) (fun H locs hP hD hS => ?_)
          refine lv_aload_n hx hb dX6_donate_54 rfl (lv_at hl 0 rfl) ?_
          refine va_get (v := .int 0) hx hb hts inTX6 hown hK hP (0) (mo_0) rfl 5 (by decide) (hts _ qf_X6_25) (fun _ h9 => h9) (congrArg (fun x => some (Value.int x)) (upd_eq rfl)) dX6_donate_55 ?_
          refine lv_if_le (tgt := 63) hx hb dX6_donate_58 (by decide) (fun c7 => ?_) (fun c7 => absurd (by decide) c7)
          have c7 := z_nlt c7
          refine lv_aload_n hx hb dX6_donate_63 rfl (lv_at hl 0 rfl) ?_
          refine z_callV0 (rest := []) S (c_X6_save (u := u) (by omega) ((upd_ne (by omega)).trans (hm))) qm_X6_58 v_X6_save ⟨Nat.le_of_ble_eq_true rfl, Nat.le_of_ble_eq_true rfl⟩ rfl rfl hN hK hP hD hS hA (0) (mo_0) rfl rfl hl.1 rfl (Nat.le_of_ble_eq_true rfl) dX6_donate_64 ⟨Nat.le_of_ble_eq_true rfl, Nat.le_of_ble_eq_true rfl⟩ (fun H locs hP hD hS => ?_)
          refine lv_aload_n hx hb dX6_donate_67 rfl (lv_at hl 0 rfl) ?_
          refine lv_iload_n hx hb dX6_donate_68 rfl (lv_at hl 1 rfl) ?_
          refine lv_iconst (v := 1) hx hb dX6_donate_69 (by decide) ?_
          refine lv_iload_n hx hb dX6_donate_70 rfl (lv_at hl 2 rfl) ?_
          refine lv_ineg hx hb dX6_donate_71 ?_
          refine z_callV0 (rest := []) S (c_X6_add j 1 (14 + 16 * j + 1) (show j < 8 by omega) (show 1 < 16 by decide) (by omega) (-mn) (z (14 + 16 * j + 1)) (rfl)) qm_X6_51 v_X6_add ⟨Nat.le_of_ble_eq_true rfl, Nat.le_of_ble_eq_true rfl⟩ rfl rfl hN hK hP hD hS hA (0) (mo_0) rfl rfl hl.1 rfl (Nat.le_of_ble_eq_true rfl) dX6_donate_72 ⟨Nat.le_of_ble_eq_true rfl, Nat.le_of_ble_eq_true rfl⟩ (fun H locs hP hD hS => ?_)
          refine lv_aload_n hx hb dX6_donate_75 rfl (lv_at hl 0 rfl) ?_
          refine va_get (v := .ref (q 1)) hx hb hts inTX6 hown hK hP (0) (mo_0) rfl 0 (by decide) (hts _ qf_X6_7) (fun _ h9 => h9) (rfl) dX6_donate_76 ?_
          refine lv_bipush (v := 6) hx hb dX6_donate_79 (by decide) ?_
          refine lv_dup2_11 hx hb dX6_donate_81 rfl rfl ?_
          refine va_iald hx hb hK hP (1) 0 (mo_1) rfl (vp_in_nI (show 6 < 142 by decide) (by omega)) dX6_donate_82 ?_
          refine z_top (v2 := .int (z 6)) (congrArg Value.int (((congrArg (zfn (upd z (14 + 16 * j + 1) ((z (14 + 16 * j + 1)) + (-mn)))) (z_cl (k := 6) rfl)).trans (zfn_at (by omega))).trans ((upd_ne (by omega)).trans (rfl)))) ?_
          refine lv_iload_n hx hb dX6_donate_83 rfl (lv_at hl 2 rfl) ?_
          refine lv_iadd hx hb dX6_donate_84  ?_
          refine z_iast (ws2 := moW cI q (upd (upd z (14 + 16 * j + 1) ((z (14 + 16 * j + 1)) + (-mn))) 6 ((z 6) + mn)) (svH hi z u) tx pa ke (upd (upd mr 2 0) 0 (nI (min (u + 1) 6))) hs wr) hx hb hK hP hD hS (1) 0 (mo_1) rfl (vp_in_nI (show 6 < 142 by decide) (by omega)) dX6_donate_85 (mo_w1 (z_cl (k := 6) rfl) (by omega)) (fun H locs hP hD hS => ?_)
          refine lv_aload_n hx hb dX6_donate_86 rfl (lv_at hl 0 rfl) ?_
          refine lv_iload_n hx hb dX6_donate_87 rfl (lv_at hl 1 rfl) ?_
          refine lv_iconst (v := 1) hx hb dX6_donate_88 (by decide) ?_
          refine z_callV1 (rest := []) S (c_X6_of j 1 (14 + 16 * j + 1) (show j < 8 by omega) (show 1 < 16 by decide) (by omega) ((z (14 + 16 * j + 1)) + (-mn)) ((upd_ne (by omega)).trans (upd_eq rfl))) qm_X6_36 v_X6_of ⟨Nat.le_of_ble_eq_true rfl, Nat.le_of_ble_eq_true rfl⟩ rfl rfl hN hK hP hD hS hA (0) (mo_0) rfl rfl hl.1 rfl (Nat.le_of_ble_eq_true rfl) dX6_donate_89 ⟨Nat.le_of_ble_eq_true rfl, Nat.le_of_ble_eq_true rfl⟩ (fun H locs hP hD hS => ?_)
          exact z_iret hx hb hr hlocks hP hD hK hS (Eq.trans (b := moW cI q (qz_pay z (cl (nI j)) mn) (svH hi z u) tx pa ke (upd (upd mr 2 0) 0 (nI (min (u + 1) 6))) hs wr) (by simp only [cl, qz_pay, nI_clamp (show j < 2 ^ 31 by omega)]) (Eq.symm (xwf_0 (K := kDonate z n (nI j) mn) (by first | (simp only [kDonate, mP, sP, inP, cl, alwP, alwM, cvP, c1, nI_clamp (show j < 2 ^ 31 by omega), c2, c3, c5, c7, not_true_eq_false, not_false_eq_true, and_self, and_true, true_and, and_false, false_and, or_true, true_or, or_false, false_or, if_true, if_false, ite_true, ite_false]; done) | (simp [kDonate, mP, sP, inP, cl, alwP, alwM, cvP, c1, nI_clamp (show j < 2 ^ 31 by omega), c2, c3, c5, c7]; done) | (simp_all [kDonate, mP, sP, inP, cl, alwP, alwM, cvP]; done))))) (congrArg (fun y_ => some (Value.int y_)) (Eq.trans (b := z (14 + 16 * cl (nI j) + 1) + (-mn)) (by simp only [cl, qz_pay, nI_clamp (show j < 2 ^ 31 by omega)]) (Eq.symm (xv_0 (K := kDonate z n (nI j) mn) (by first | (simp only [kDonate, mP, sP, inP, cl, alwP, alwM, cvP, c1, nI_clamp (show j < 2 ^ 31 by omega), c2, c3, c5, c7, not_true_eq_false, not_false_eq_true, and_self, and_true, true_and, and_false, false_and, or_true, true_or, or_false, false_or, if_true, if_false, ite_true, ite_false]; done) | (simp [kDonate, mP, sP, inP, cl, alwP, alwM, cvP, c1, nI_clamp (show j < 2 ^ 31 by omega), c2, c3, c5, c7]; done) | (simp_all [kDonate, mP, sP, inP, cl, alwP, alwM, cvP]; done)))))) dX6_donate_92
    · have c2 := bI_0 c2
      refine lv_iconst (v := 2) hx hb dX6_donate_24 (by decide) ?_
      refine lv_goto (tgt := 51) hx hb dX6_donate_25 (by decide) ?_
      refine z_put (v := .int 2) (ty := .int) (ws2 := moW cI q z hi tx pa ke (upd mr 2 2) hs wr) hx hb hts inTX6 tyX6 tyX6_ok nmX6 hown hK hP hD hS (0) (mo_0) rfl 5 (by decide) (hts _ qf_X6_25) (fun _ h9 => h9) rfl (by decide +kernel) (rfl) (rfl) (Nat.le_of_ble_eq_true rfl) dX6_donate_51 (mo_w0 _ mfl_s2) (fun H locs hP hD hS => ?_)
      refine lv_aload_n hx hb dX6_donate_54 rfl (lv_at hl 0 rfl) ?_
      refine va_get (v := .int 2) hx hb hts inTX6 hown hK hP (0) (mo_0) rfl 5 (by decide) (hts _ qf_X6_25) (fun _ h9 => h9) (congrArg (fun x => some (Value.int x)) (upd_eq rfl)) dX6_donate_55 ?_
      refine lv_if_le (tgt := 63) hx hb dX6_donate_58 (by decide) (fun c8 => absurd c8 (by decide)) (fun c8 => ?_)
      have c8 := z_lt c8
      refine lv_iconst (v := 0) hx hb dX6_donate_61 (by decide) ?_
      exact z_iret hx hb hr hlocks hP hD hK hS (Eq.symm (xwf_n (K := kDonate z n (nI j) mn) (k := 2) (by first | (simp only [kDonate, mP, sP, inP, cl, alwP, alwM, cvP, c1, nI_clamp (show j < 2 ^ 31 by omega), c2, c8, not_true_eq_false, not_false_eq_true, and_self, and_true, true_and, and_false, false_and, or_true, true_or, or_false, false_or, if_true, if_false, ite_true, ite_false]; done) | (simp [kDonate, mP, sP, inP, cl, alwP, alwM, cvP, c1, nI_clamp (show j < 2 ^ 31 by omega), c2, c8]; done) | (simp_all [kDonate, mP, sP, inP, cl, alwP, alwM, cvP]; done)) (by decide))) (congrArg (fun y_ => some (Value.int y_)) (Eq.symm (xv_n (K := kDonate z n (nI j) mn) (k := 2) (by first | (simp only [kDonate, mP, sP, inP, cl, alwP, alwM, cvP, c1, nI_clamp (show j < 2 ^ 31 by omega), c2, c8, not_true_eq_false, not_false_eq_true, and_self, and_true, true_and, and_false, false_and, or_true, true_or, or_false, false_or, if_true, if_false, ite_true, ite_false]; done) | (simp [kDonate, mP, sP, inP, cl, alwP, alwM, cvP, c1, nI_clamp (show j < 2 ^ 31 by omega), c2, c8]; done) | (simp_all [kDonate, mP, sP, inP, cl, alwP, alwM, cvP]; done)) (by decide)))) dX6_donate_62
  · have c1 := bI_0 c1
    refine lv_iconst (v := 1) hx hb dX6_donate_9 (by decide) ?_
    refine lv_goto (tgt := 51) hx hb dX6_donate_10 (by decide) ?_
    refine z_put (v := .int 1) (ty := .int) (ws2 := moW cI q z hi tx pa ke (upd mr 2 1) hs wr) hx hb hts inTX6 tyX6 tyX6_ok nmX6 hown hK hP hD hS (0) (mo_0) rfl 5 (by decide) (hts _ qf_X6_25) (fun _ h9 => h9) rfl (by decide +kernel) (rfl) (rfl) (Nat.le_of_ble_eq_true rfl) dX6_donate_51 (mo_w0 _ mfl_s2) (fun H locs hP hD hS => ?_)
    refine lv_aload_n hx hb dX6_donate_54 rfl (lv_at hl 0 rfl) ?_
    refine va_get (v := .int 1) hx hb hts inTX6 hown hK hP (0) (mo_0) rfl 5 (by decide) (hts _ qf_X6_25) (fun _ h9 => h9) (congrArg (fun x => some (Value.int x)) (upd_eq rfl)) dX6_donate_55 ?_
    refine lv_if_le (tgt := 63) hx hb dX6_donate_58 (by decide) (fun c9 => absurd c9 (by decide)) (fun c9 => ?_)
    have c9 := z_lt c9
    refine lv_iconst (v := 0) hx hb dX6_donate_61 (by decide) ?_
    exact z_iret hx hb hr hlocks hP hD hK hS (Eq.symm (xwf_n (K := kDonate z n mb mn) (k := 1) (by first | (simp only [kDonate, mP, sP, inP, cl, alwP, alwM, cvP, c1, c9, not_true_eq_false, not_false_eq_true, and_self, and_true, true_and, and_false, false_and, or_true, true_or, or_false, false_or, if_true, if_false, ite_true, ite_false]; done) | (simp [kDonate, mP, sP, inP, cl, alwP, alwM, cvP, c1, c9]; done) | (simp_all [kDonate, mP, sP, inP, cl, alwP, alwM, cvP]; done)) (by decide))) (congrArg (fun y_ => some (Value.int y_)) (Eq.symm (xv_n (K := kDonate z n mb mn) (k := 1) (by first | (simp only [kDonate, mP, sP, inP, cl, alwP, alwM, cvP, c1, c9, not_true_eq_false, not_false_eq_true, and_self, and_true, true_and, and_false, false_and, or_true, true_or, or_false, false_or, if_true, if_false, ite_true, ite_false]; done) | (simp [kDonate, mP, sP, inP, cl, alwP, alwM, cvP, c1, c9]; done) | (simp_all [kDonate, mP, sP, inP, cl, alwP, alwM, cvP]; done)) (by decide)))) dX6_donate_62
set_option maxHeartbeats 4000000 in
set_option maxRecDepth 100000 in
theorem c_X6_pass {n : Nat} (hn : n ≤ 8) (hz : z 5 = nI n) {u : Nat} (hu : u ≤ 6) (hm : mr 0 = nI u) (hB : hBool z) (wk : Int32) : zM l D (zT cI cC cM cB cJ) yX6_pass cX6_pass 2 (some .int) ({ frames := 3, cells := 0, slots := 0, locals := 71 } : Room) [.ref (q 0), .int wk] (moW cI q z hi tx pa ke mr hs wr) (xwf (kPass z wk) (moW cI q (wkI z n (cl wk)) (svH hi z u) tx pa ke (upd (upd mr 2 0) 0 (nI (min (u + 1) 6))) hs wr) (fun k_ => moW cI q z hi tx pa ke (upd mr 2 k_) hs wr)) (some (.int (xv (kPass z wk) (wkS z n (cl wk))))) 0 0 := by
  refine z_enter (by decide) (Nat.le_of_ble_eq_true rfl) ?_
  intro p e s m below meth c A S hr hlocks hnm hN hA hK hP hD hS ls hl
  obtain ⟨hx, hb, hml, hown, hts⟩ := id S
  have hl : lv_has ls 2 [(0, .ref (q 0)), (1, .int wk)] := hl
  have hP : va_P D vwCl (moW cI q z hi tx pa ke mr hs wr) s.heap := hP
  have hD : va_D A (moW cI q z hi tx pa ke mr hs wr) := hD
  refine lv_aload_n hx hb dX6_pass_0 rfl (lv_at hl 0 rfl) ?_
  refine lv_iload_n hx hb dX6_pass_1 rfl (lv_at hl 1 rfl) ?_
  refine lv_iconst (v := 1) hx hb dX6_pass_2 (by decide) ?_
  refine lv_bipush (v := 50) hx hb dX6_pass_3 (by decide) ?_
  refine z_callS1 (rest := [.ref (q 0)]) S (c_X6_within wk 1 50) qm_X6_32 t_X6_within ⟨Nat.le_of_ble_eq_true rfl, Nat.le_of_ble_eq_true rfl⟩ rfl rfl hN hK hP hD hS hA rfl hl.1 rfl (Nat.le_of_ble_eq_true rfl) dX6_pass_5 ⟨Nat.le_of_ble_eq_true rfl, Nat.le_of_ble_eq_true rfl⟩ (fun H locs hP hD hS => ?_)
  refine lv_if_ne (tgt := 15) hx hb dX6_pass_8 (by decide) (fun c1 => ?_) (fun c1 => ?_)
  · have c1 := bI_1 c1
    obtain ⟨v_, hv_, rfl⟩ := w50_nat c1
    refine lv_aload_n hx hb dX6_pass_15 rfl (lv_at hl 0 rfl) ?_
    refine va_get (v := .ref (q 1)) hx hb hts inTX6 hown hK hP (0) (mo_0) rfl 0 (by decide) (hts _ qf_X6_7) (fun _ h9 => h9) (rfl) dX6_pass_16 ?_
    refine lv_bipush (v := 8) hx hb dX6_pass_19 (by decide) ?_
    refine va_iald hx hb hK hP (1) 0 (mo_1) rfl (vp_in_nI (show 8 < 142 by decide) (by omega)) dX6_pass_21 ?_
    refine z_top (v2 := .int (z 8)) (congrArg Value.int (((congrArg (zfn z) (z_cl (k := 8) rfl)).trans (zfn_at (by omega))).trans (rfl))) ?_
    refine lv_iload_n hx hb dX6_pass_22 rfl (lv_at hl 1 rfl) ?_
    refine lv_iadd hx hb dX6_pass_23  ?_
    refine lv_sipush (v := 2000) hx hb dX6_pass_24 (by decide) ?_
    refine lv_icmp_le (tgt := 34) hx hb dX6_pass_27 (by decide) (fun c2 => ?_) (fun c2 => ?_)
    · have c2 := z_nlt c2
      refine lv_iconst (v := 0) hx hb dX6_pass_34 (by decide) ?_
      refine z_put (v := .int 0) (ty := .int) (ws2 := moW cI q z hi tx pa ke (upd mr 2 0) hs wr) hx hb hts inTX6 tyX6 tyX6_ok nmX6 hown hK hP hD hS (0) (mo_0) rfl 5 (by decide) (hts _ qf_X6_25) (fun _ h9 => h9) rfl (by decide +kernel) (rfl) (rfl) (Nat.le_of_ble_eq_true rfl) dX6_pass_35 (mo_w0 _ mfl_s2) (fun H locs hP hD hS => ?_)
      refine lv_aload_n hx hb dX6_pass_38 rfl (lv_at hl 0 rfl) ?_
      refine va_get (v := .int 0) hx hb hts inTX6 hown hK hP (0) (mo_0) rfl 5 (by decide) (hts _ qf_X6_25) (fun _ h9 => h9) (congrArg (fun x => some (Value.int x)) (upd_eq rfl)) dX6_pass_39 ?_
      refine lv_if_le (tgt := 47) hx hb dX6_pass_42 (by decide) (fun c3 => ?_) (fun c3 => absurd (by decide) c3)
      have c3 := z_nlt c3
      refine lv_aload_n hx hb dX6_pass_47 rfl (lv_at hl 0 rfl) ?_
      refine z_callV0 (rest := []) S (c_X6_save (u := u) (by omega) ((upd_ne (by omega)).trans (hm))) qm_X6_58 v_X6_save ⟨Nat.le_of_ble_eq_true rfl, Nat.le_of_ble_eq_true rfl⟩ rfl rfl hN hK hP hD hS hA (0) (mo_0) rfl rfl hl.1 rfl (Nat.le_of_ble_eq_true rfl) dX6_pass_48 ⟨Nat.le_of_ble_eq_true rfl, Nat.le_of_ble_eq_true rfl⟩ (fun H locs hP hD hS => ?_)
      refine lv_aload_n hx hb dX6_pass_51 rfl (lv_at hl 0 rfl) ?_
      refine lv_iload_n hx hb dX6_pass_52 rfl (lv_at hl 1 rfl) ?_
      refine z_callV1 (rest := []) S (c_X6_passes (n := n) (show n ≤ 8 by omega) (hz) (hB) (wk := v_) (by omega)) qm_X6_102 v_X6_passes ⟨Nat.le_of_ble_eq_true rfl, Nat.le_of_ble_eq_true rfl⟩ rfl rfl hN hK hP hD hS hA (0) (mo_0) rfl rfl hl.1 rfl (Nat.le_of_ble_eq_true rfl) dX6_pass_53 ⟨Nat.le_of_ble_eq_true rfl, Nat.le_of_ble_eq_true rfl⟩ (fun H locs hP hD hS => ?_)
      exact z_iret hx hb hr hlocks hP hD hK hS (Eq.trans (b := moW cI q (wkI z n (cl (nI v_))) (svH hi z u) tx pa ke (upd (upd mr 2 0) 0 (nI (min (u + 1) 6))) hs wr) (by simp only [cl, nI_clamp (show v_ < 2 ^ 31 by omega)]) (Eq.symm (xwf_0 (K := kPass z (nI v_)) (by first | (simp only [kPass, mP, sP, inP, cl, alwP, alwM, cvP, c1, nI_clamp (show v_ < 2 ^ 31 by omega), c2, c3, not_true_eq_false, not_false_eq_true, and_self, and_true, true_and, and_false, false_and, or_true, true_or, or_false, false_or, if_true, if_false, ite_true, ite_false]; done) | (simp [kPass, mP, sP, inP, cl, alwP, alwM, cvP, c1, nI_clamp (show v_ < 2 ^ 31 by omega), c2, c3]; done) | (simp_all [kPass, mP, sP, inP, cl, alwP, alwM, cvP]; done))))) (congrArg (fun y_ => some (Value.int y_)) (Eq.trans (b := wkS z n (cl (nI v_))) (by simp only [cl, nI_clamp (show v_ < 2 ^ 31 by omega)]) (Eq.symm (xv_0 (K := kPass z (nI v_)) (by first | (simp only [kPass, mP, sP, inP, cl, alwP, alwM, cvP, c1, nI_clamp (show v_ < 2 ^ 31 by omega), c2, c3, not_true_eq_false, not_false_eq_true, and_self, and_true, true_and, and_false, false_and, or_true, true_or, or_false, false_or, if_true, if_false, ite_true, ite_false]; done) | (simp [kPass, mP, sP, inP, cl, alwP, alwM, cvP, c1, nI_clamp (show v_ < 2 ^ 31 by omega), c2, c3]; done) | (simp_all [kPass, mP, sP, inP, cl, alwP, alwM, cvP]; done)))))) dX6_pass_56
    · have c2 := z_lt c2
      refine lv_iconst (v := 2) hx hb dX6_pass_30 (by decide) ?_
      refine lv_goto (tgt := 35) hx hb dX6_pass_31 (by decide) ?_
      refine z_put (v := .int 2) (ty := .int) (ws2 := moW cI q z hi tx pa ke (upd mr 2 2) hs wr) hx hb hts inTX6 tyX6 tyX6_ok nmX6 hown hK hP hD hS (0) (mo_0) rfl 5 (by decide) (hts _ qf_X6_25) (fun _ h9 => h9) rfl (by decide +kernel) (rfl) (rfl) (Nat.le_of_ble_eq_true rfl) dX6_pass_35 (mo_w0 _ mfl_s2) (fun H locs hP hD hS => ?_)
      refine lv_aload_n hx hb dX6_pass_38 rfl (lv_at hl 0 rfl) ?_
      refine va_get (v := .int 2) hx hb hts inTX6 hown hK hP (0) (mo_0) rfl 5 (by decide) (hts _ qf_X6_25) (fun _ h9 => h9) (congrArg (fun x => some (Value.int x)) (upd_eq rfl)) dX6_pass_39 ?_
      refine lv_if_le (tgt := 47) hx hb dX6_pass_42 (by decide) (fun c4 => absurd c4 (by decide)) (fun c4 => ?_)
      have c4 := z_lt c4
      refine lv_iconst (v := 0) hx hb dX6_pass_45 (by decide) ?_
      exact z_iret hx hb hr hlocks hP hD hK hS (Eq.symm (xwf_n (K := kPass z (nI v_)) (k := 2) (by first | (simp only [kPass, mP, sP, inP, cl, alwP, alwM, cvP, c1, nI_clamp (show v_ < 2 ^ 31 by omega), c2, c4, not_true_eq_false, not_false_eq_true, and_self, and_true, true_and, and_false, false_and, or_true, true_or, or_false, false_or, if_true, if_false, ite_true, ite_false]; done) | (simp [kPass, mP, sP, inP, cl, alwP, alwM, cvP, c1, nI_clamp (show v_ < 2 ^ 31 by omega), c2, c4]; done) | (simp_all [kPass, mP, sP, inP, cl, alwP, alwM, cvP]; done)) (by decide))) (congrArg (fun y_ => some (Value.int y_)) (Eq.symm (xv_n (K := kPass z (nI v_)) (k := 2) (by first | (simp only [kPass, mP, sP, inP, cl, alwP, alwM, cvP, c1, nI_clamp (show v_ < 2 ^ 31 by omega), c2, c4, not_true_eq_false, not_false_eq_true, and_self, and_true, true_and, and_false, false_and, or_true, true_or, or_false, false_or, if_true, if_false, ite_true, ite_false]; done) | (simp [kPass, mP, sP, inP, cl, alwP, alwM, cvP, c1, nI_clamp (show v_ < 2 ^ 31 by omega), c2, c4]; done) | (simp_all [kPass, mP, sP, inP, cl, alwP, alwM, cvP]; done)) (by decide)))) dX6_pass_46
  · have c1 := bI_0 c1
    refine lv_iconst (v := 1) hx hb dX6_pass_11 (by decide) ?_
    refine lv_goto (tgt := 35) hx hb dX6_pass_12 (by decide) ?_
    refine z_put (v := .int 1) (ty := .int) (ws2 := moW cI q z hi tx pa ke (upd mr 2 1) hs wr) hx hb hts inTX6 tyX6 tyX6_ok nmX6 hown hK hP hD hS (0) (mo_0) rfl 5 (by decide) (hts _ qf_X6_25) (fun _ h9 => h9) rfl (by decide +kernel) (rfl) (rfl) (Nat.le_of_ble_eq_true rfl) dX6_pass_35 (mo_w0 _ mfl_s2) (fun H locs hP hD hS => ?_)
    refine lv_aload_n hx hb dX6_pass_38 rfl (lv_at hl 0 rfl) ?_
    refine va_get (v := .int 1) hx hb hts inTX6 hown hK hP (0) (mo_0) rfl 5 (by decide) (hts _ qf_X6_25) (fun _ h9 => h9) (congrArg (fun x => some (Value.int x)) (upd_eq rfl)) dX6_pass_39 ?_
    refine lv_if_le (tgt := 47) hx hb dX6_pass_42 (by decide) (fun c5 => absurd c5 (by decide)) (fun c5 => ?_)
    have c5 := z_lt c5
    refine lv_iconst (v := 0) hx hb dX6_pass_45 (by decide) ?_
    exact z_iret hx hb hr hlocks hP hD hK hS (Eq.symm (xwf_n (K := kPass z wk) (k := 1) (by first | (simp only [kPass, mP, sP, inP, cl, alwP, alwM, cvP, c1, c5, not_true_eq_false, not_false_eq_true, and_self, and_true, true_and, and_false, false_and, or_true, true_or, or_false, false_or, if_true, if_false, ite_true, ite_false]; done) | (simp [kPass, mP, sP, inP, cl, alwP, alwM, cvP, c1, c5]; done) | (simp_all [kPass, mP, sP, inP, cl, alwP, alwM, cvP]; done)) (by decide))) (congrArg (fun y_ => some (Value.int y_)) (Eq.symm (xv_n (K := kPass z wk) (k := 1) (by first | (simp only [kPass, mP, sP, inP, cl, alwP, alwM, cvP, c1, c5, not_true_eq_false, not_false_eq_true, and_self, and_true, true_and, and_false, false_and, or_true, true_or, or_false, false_or, if_true, if_false, ite_true, ite_false]; done) | (simp [kPass, mP, sP, inP, cl, alwP, alwM, cvP, c1, c5]; done) | (simp_all [kPass, mP, sP, inP, cl, alwP, alwM, cvP]; done)) (by decide)))) dX6_pass_46
set_option maxHeartbeats 4000000 in
set_option maxRecDepth 100000 in
theorem c_X6_set {n : Nat} (hn : n ≤ 8) (hz : z 5 = nI n) {u : Nat} (hu : u ≤ 6) (hm : mr 0 = nI u) (hB : hBool z) (st v : Int32) : zM l D (zT cI cC cM cB cJ) yX6_set cX6_set 4 (some .int) ({ frames := 2, cells := 0, slots := 0, locals := 42 } : Room) [.ref (q 0), .int st, .int v] (moW cI q z hi tx pa ke mr hs wr) (xwf (kSet st v) (moW cI q (upd z (cl st) v) (svH hi z u) tx pa ke (upd (upd mr 2 0) 0 (nI (min (u + 1) 6))) hs wr) (fun k_ => moW cI q z hi tx pa ke (upd mr 2 k_) hs wr)) (some (.int (xv (kSet st v) (z (cl st))))) 0 0 := by
  refine z_enter (by decide) (Nat.le_of_ble_eq_true rfl) ?_
  intro p e s m below meth c A S hr hlocks hnm hN hA hK hP hD hS ls hl
  obtain ⟨hx, hb, hml, hown, hts⟩ := id S
  have hl : lv_has ls 4 [(0, .ref (q 0)), (1, .int st), (2, .int v)] := hl
  have hP : va_P D vwCl (moW cI q z hi tx pa ke mr hs wr) s.heap := hP
  have hD : va_D A (moW cI q z hi tx pa ke mr hs wr) := hD
  refine lv_aload_n hx hb dX6_set_0 rfl (lv_at hl 0 rfl) ?_
  refine lv_iload_n hx hb dX6_set_1 rfl (lv_at hl 1 rfl) ?_
  refine z_callS1 (rest := [.ref (q 0)]) S (c_X6_isSetting st) qm_X6_105 t_X6_isSetting ⟨Nat.le_of_ble_eq_true rfl, Nat.le_of_ble_eq_true rfl⟩ rfl rfl hN hK hP hD hS hA rfl hl.1 rfl (Nat.le_of_ble_eq_true rfl) dX6_set_2 ⟨Nat.le_of_ble_eq_true rfl, Nat.le_of_ble_eq_true rfl⟩ (fun H locs hP hD hS => ?_)
  refine lv_if_ne (tgt := 12) hx hb dX6_set_5 (by decide) (fun c1 => ?_) (fun c1 => ?_)
  · have c1 := bI_1 c1
    obtain ⟨k_, hk_, rfl⟩ := skl_nat c1
    refine lv_iload_n hx hb dX6_set_12 rfl (lv_at hl 2 rfl) ?_
    refine lv_iconst (v := 0) hx hb dX6_set_13 (by decide) ?_
    refine lv_iload_n hx hb dX6_set_14 rfl (lv_at hl 1 rfl) ?_
    refine z_callS1 (rest := [.int 0, .int v, .ref (q 0)]) S (c_X6_greatest k_ (show k_ < 5 by omega)) qm_X6_108 t_X6_greatest ⟨Nat.le_of_ble_eq_true rfl, Nat.le_of_ble_eq_true rfl⟩ rfl rfl hN hK hP hD hS hA rfl hl.1 rfl (Nat.le_of_ble_eq_true rfl) dX6_set_15 ⟨Nat.le_of_ble_eq_true rfl, Nat.le_of_ble_eq_true rfl⟩ (fun H locs hP hD hS => ?_)
    refine z_callS1 (rest := [.ref (q 0)]) S (c_X6_within v 0 (gsA k_)) qm_X6_32 t_X6_within ⟨Nat.le_of_ble_eq_true rfl, Nat.le_of_ble_eq_true rfl⟩ rfl rfl hN hK hP hD hS hA rfl hl.1 rfl (Nat.le_of_ble_eq_true rfl) dX6_set_18 ⟨Nat.le_of_ble_eq_true rfl, Nat.le_of_ble_eq_true rfl⟩ (fun H locs hP hD hS => ?_)
    refine lv_if_eq (tgt := 28) hx hb dX6_set_21 (by decide) (fun c2 => ?_) (fun c2 => ?_)
    · have c2 := bI_0 c2
      refine lv_iconst (v := 2) hx hb dX6_set_28 (by decide) ?_
      refine z_put (v := .int 2) (ty := .int) (ws2 := moW cI q z hi tx pa ke (upd mr 2 2) hs wr) hx hb hts inTX6 tyX6 tyX6_ok nmX6 hown hK hP hD hS (0) (mo_0) rfl 5 (by decide) (hts _ qf_X6_25) (fun _ h9 => h9) rfl (by decide +kernel) (rfl) (rfl) (Nat.le_of_ble_eq_true rfl) dX6_set_29 (mo_w0 _ mfl_s2) (fun H locs hP hD hS => ?_)
      refine lv_aload_n hx hb dX6_set_32 rfl (lv_at hl 0 rfl) ?_
      refine va_get (v := .int 2) hx hb hts inTX6 hown hK hP (0) (mo_0) rfl 5 (by decide) (hts _ qf_X6_25) (fun _ h9 => h9) (congrArg (fun x => some (Value.int x)) (upd_eq rfl)) dX6_set_33 ?_
      refine lv_if_le (tgt := 41) hx hb dX6_set_36 (by decide) (fun c3 => absurd c3 (by decide)) (fun c3 => ?_)
      have c3 := z_lt c3
      refine lv_iconst (v := 0) hx hb dX6_set_39 (by decide) ?_
      exact z_iret hx hb hr hlocks hP hD hK hS (Eq.symm (xwf_n (K := kSet (nI k_) v) (k := 2) (by first | (simp only [kSet, mP, sP, inP, cl, alwP, alwM, cvP, c1, nI_clamp (show k_ < 2 ^ 31 by omega), c2, c3, not_true_eq_false, not_false_eq_true, and_self, and_true, true_and, and_false, false_and, or_true, true_or, or_false, false_or, if_true, if_false, ite_true, ite_false]; done) | (simp [kSet, mP, sP, inP, cl, alwP, alwM, cvP, c1, nI_clamp (show k_ < 2 ^ 31 by omega), c2, c3]; done) | (simp_all [kSet, mP, sP, inP, cl, alwP, alwM, cvP]; done)) (by decide))) (congrArg (fun y_ => some (Value.int y_)) (Eq.symm (xv_n (K := kSet (nI k_) v) (k := 2) (by first | (simp only [kSet, mP, sP, inP, cl, alwP, alwM, cvP, c1, nI_clamp (show k_ < 2 ^ 31 by omega), c2, c3, not_true_eq_false, not_false_eq_true, and_self, and_true, true_and, and_false, false_and, or_true, true_or, or_false, false_or, if_true, if_false, ite_true, ite_false]; done) | (simp [kSet, mP, sP, inP, cl, alwP, alwM, cvP, c1, nI_clamp (show k_ < 2 ^ 31 by omega), c2, c3]; done) | (simp_all [kSet, mP, sP, inP, cl, alwP, alwM, cvP]; done)) (by decide)))) dX6_set_40
    · have c2 := bI_1 c2
      refine lv_iconst (v := 0) hx hb dX6_set_24 (by decide) ?_
      refine lv_goto (tgt := 29) hx hb dX6_set_25 (by decide) ?_
      refine z_put (v := .int 0) (ty := .int) (ws2 := moW cI q z hi tx pa ke (upd mr 2 0) hs wr) hx hb hts inTX6 tyX6 tyX6_ok nmX6 hown hK hP hD hS (0) (mo_0) rfl 5 (by decide) (hts _ qf_X6_25) (fun _ h9 => h9) rfl (by decide +kernel) (rfl) (rfl) (Nat.le_of_ble_eq_true rfl) dX6_set_29 (mo_w0 _ mfl_s2) (fun H locs hP hD hS => ?_)
      refine lv_aload_n hx hb dX6_set_32 rfl (lv_at hl 0 rfl) ?_
      refine va_get (v := .int 0) hx hb hts inTX6 hown hK hP (0) (mo_0) rfl 5 (by decide) (hts _ qf_X6_25) (fun _ h9 => h9) (congrArg (fun x => some (Value.int x)) (upd_eq rfl)) dX6_set_33 ?_
      refine lv_if_le (tgt := 41) hx hb dX6_set_36 (by decide) (fun c4 => ?_) (fun c4 => absurd (by decide) c4)
      have c4 := z_nlt c4
      refine lv_aload_n hx hb dX6_set_41 rfl (lv_at hl 0 rfl) ?_
      refine z_callV0 (rest := []) S (c_X6_save (u := u) (by omega) ((upd_ne (by omega)).trans (hm))) qm_X6_58 v_X6_save ⟨Nat.le_of_ble_eq_true rfl, Nat.le_of_ble_eq_true rfl⟩ rfl rfl hN hK hP hD hS hA (0) (mo_0) rfl rfl hl.1 rfl (Nat.le_of_ble_eq_true rfl) dX6_set_42 ⟨Nat.le_of_ble_eq_true rfl, Nat.le_of_ble_eq_true rfl⟩ (fun H locs hP hD hS => ?_)
      refine lv_aload_n hx hb dX6_set_45 rfl (lv_at hl 0 rfl) ?_
      refine va_get (v := .ref (q 1)) hx hb hts inTX6 hown hK hP (0) (mo_0) rfl 0 (by decide) (hts _ qf_X6_7) (fun _ h9 => h9) (rfl) dX6_set_46 ?_
      refine lv_iload_n hx hb dX6_set_49 rfl (lv_at hl 1 rfl) ?_
      refine va_iald hx hb hK hP (1) 0 (mo_1) rfl (vp_in_nI (show k_ < 142 by omega) (by omega)) dX6_set_50 ?_
      refine z_top (v2 := .int (z k_)) (congrArg Value.int (((congrArg (zfn z) (z_cl (k := k_) rfl)).trans (zfn_at (by omega))).trans (rfl))) ?_
      refine lv_istore_n (lv' := [(3, .int (z k_)), (0, .ref (q 0)), (1, .int (nI k_)), (2, .int v)]) hx hb dX6_set_51 rfl hl (by decide) rfl (fun ls hl => ?_)
      refine lv_aload_n hx hb dX6_set_52 rfl (lv_at hl 1 rfl) ?_
      refine va_get (v := .ref (q 1)) hx hb hts inTX6 hown hK hP (0) (mo_0) rfl 0 (by decide) (hts _ qf_X6_7) (fun _ h9 => h9) (rfl) dX6_set_53 ?_
      refine lv_iload_n hx hb dX6_set_56 rfl (lv_at hl 2 rfl) ?_
      refine lv_iload_n hx hb dX6_set_57 rfl (lv_at hl 3 rfl) ?_
      refine z_iast (ws2 := moW cI q (upd z k_ v) (svH hi z u) tx pa ke (upd (upd mr 2 0) 0 (nI (min (u + 1) 6))) hs wr) hx hb hK hP hD hS (1) 0 (mo_1) rfl (vp_in_nI (show k_ < 142 by omega) (by omega)) dX6_set_58 (mo_w1 (z_cl (k := k_) rfl) (by omega)) (fun H locs hP hD hS => ?_)
      refine lv_iload_n hx hb dX6_set_59 rfl (lv_at hl 0 rfl) ?_
      exact z_iret hx hb hr hlocks hP hD hK hS (Eq.trans (b := moW cI q (upd z (cl (nI k_)) v) (svH hi z u) tx pa ke (upd (upd mr 2 0) 0 (nI (min (u + 1) 6))) hs wr) (by simp only [cl, nI_clamp (show k_ < 2 ^ 31 by omega)]) (Eq.symm (xwf_0 (K := kSet (nI k_) v) (by first | (simp only [kSet, mP, sP, inP, cl, alwP, alwM, cvP, c1, nI_clamp (show k_ < 2 ^ 31 by omega), c2, c4, not_true_eq_false, not_false_eq_true, and_self, and_true, true_and, and_false, false_and, or_true, true_or, or_false, false_or, if_true, if_false, ite_true, ite_false]; done) | (simp [kSet, mP, sP, inP, cl, alwP, alwM, cvP, c1, nI_clamp (show k_ < 2 ^ 31 by omega), c2, c4]; done) | (simp_all [kSet, mP, sP, inP, cl, alwP, alwM, cvP]; done))))) (congrArg (fun y_ => some (Value.int y_)) (Eq.trans (b := z (cl (nI k_))) (by simp only [cl, nI_clamp (show k_ < 2 ^ 31 by omega)]) (Eq.symm (xv_0 (K := kSet (nI k_) v) (by first | (simp only [kSet, mP, sP, inP, cl, alwP, alwM, cvP, c1, nI_clamp (show k_ < 2 ^ 31 by omega), c2, c4, not_true_eq_false, not_false_eq_true, and_self, and_true, true_and, and_false, false_and, or_true, true_or, or_false, false_or, if_true, if_false, ite_true, ite_false]; done) | (simp [kSet, mP, sP, inP, cl, alwP, alwM, cvP, c1, nI_clamp (show k_ < 2 ^ 31 by omega), c2, c4]; done) | (simp_all [kSet, mP, sP, inP, cl, alwP, alwM, cvP]; done)))))) dX6_set_60
  · have c1 := bI_0 c1
    refine lv_iconst (v := 1) hx hb dX6_set_8 (by decide) ?_
    refine lv_goto (tgt := 29) hx hb dX6_set_9 (by decide) ?_
    refine z_put (v := .int 1) (ty := .int) (ws2 := moW cI q z hi tx pa ke (upd mr 2 1) hs wr) hx hb hts inTX6 tyX6 tyX6_ok nmX6 hown hK hP hD hS (0) (mo_0) rfl 5 (by decide) (hts _ qf_X6_25) (fun _ h9 => h9) rfl (by decide +kernel) (rfl) (rfl) (Nat.le_of_ble_eq_true rfl) dX6_set_29 (mo_w0 _ mfl_s2) (fun H locs hP hD hS => ?_)
    refine lv_aload_n hx hb dX6_set_32 rfl (lv_at hl 0 rfl) ?_
    refine va_get (v := .int 1) hx hb hts inTX6 hown hK hP (0) (mo_0) rfl 5 (by decide) (hts _ qf_X6_25) (fun _ h9 => h9) (congrArg (fun x => some (Value.int x)) (upd_eq rfl)) dX6_set_33 ?_
    refine lv_if_le (tgt := 41) hx hb dX6_set_36 (by decide) (fun c5 => absurd c5 (by decide)) (fun c5 => ?_)
    have c5 := z_lt c5
    refine lv_iconst (v := 0) hx hb dX6_set_39 (by decide) ?_
    exact z_iret hx hb hr hlocks hP hD hK hS (Eq.symm (xwf_n (K := kSet st v) (k := 1) (by first | (simp only [kSet, mP, sP, inP, cl, alwP, alwM, cvP, c1, c5, not_true_eq_false, not_false_eq_true, and_self, and_true, true_and, and_false, false_and, or_true, true_or, or_false, false_or, if_true, if_false, ite_true, ite_false]; done) | (simp [kSet, mP, sP, inP, cl, alwP, alwM, cvP, c1, c5]; done) | (simp_all [kSet, mP, sP, inP, cl, alwP, alwM, cvP]; done)) (by decide))) (congrArg (fun y_ => some (Value.int y_)) (Eq.symm (xv_n (K := kSet st v) (k := 1) (by first | (simp only [kSet, mP, sP, inP, cl, alwP, alwM, cvP, c1, c5, not_true_eq_false, not_false_eq_true, and_self, and_true, true_and, and_false, false_and, or_true, true_or, or_false, false_or, if_true, if_false, ite_true, ite_false]; done) | (simp [kSet, mP, sP, inP, cl, alwP, alwM, cvP, c1, c5]; done) | (simp_all [kSet, mP, sP, inP, cl, alwP, alwM, cvP]; done)) (by decide)))) dX6_set_40
set_option maxHeartbeats 4000000 in
set_option maxRecDepth 100000 in
theorem c_X6_move {n : Nat} (hn : n ≤ 8) (hz : z 5 = nI n) {u : Nat} (hu : u ≤ 6) (hm : mr 0 = nI u) (hB : hBool z) (mb mn : Int32) : zM l D (zT cI cC cM cB cJ) yX6_move cX6_move 3 (some .int) ({ frames := 3, cells := 0, slots := 0, locals := 65 } : Room) [.ref (q 0), .int mb, .int mn] (moW cI q z hi tx pa ke mr hs wr) (xwf (kMove z n mb mn) (moW cI q (upd (upd z 10 mb) 11 mn) (svH hi z u) tx pa ke (upd (upd mr 2 0) 0 (nI (min (u + 1) 6))) hs wr) (fun k_ => moW cI q z hi tx pa ke (upd mr 2 k_) hs wr)) (some (.int (xv (kMove z n mb mn) (cntT (upd (upd z 10 mb) 11 mn) n - upd (upd z 10 mb) 11 mn (14 + 16 * cl mb))))) 0 0 := by
  refine z_enter (by decide) (Nat.le_of_ble_eq_true rfl) ?_
  intro p e s m below meth c A S hr hlocks hnm hN hA hK hP hD hS ls hl
  obtain ⟨hx, hb, hml, hown, hts⟩ := id S
  have hl : lv_has ls 3 [(0, .ref (q 0)), (1, .int mb), (2, .int mn)] := hl
  have hP : va_P D vwCl (moW cI q z hi tx pa ke mr hs wr) s.heap := hP
  have hD : va_D A (moW cI q z hi tx pa ke mr hs wr) := hD
  refine lv_aload_n hx hb dX6_move_0 rfl (lv_at hl 0 rfl) ?_
  refine lv_aload_n hx hb dX6_move_1 rfl (lv_at hl 0 rfl) ?_
  refine lv_iload_n hx hb dX6_move_2 rfl (lv_at hl 1 rfl) ?_
  refine z_callV1 (rest := [.ref (q 0)]) S (c_X6_isMember (n := n) (show n ≤ 8 by omega) (hz) mb) qm_X6_64 v_X6_isMember ⟨Nat.le_of_ble_eq_true rfl, Nat.le_of_ble_eq_true rfl⟩ rfl rfl hN hK hP hD hS hA (0) (mo_0) rfl rfl hl.1 rfl (Nat.le_of_ble_eq_true rfl) dX6_move_3 ⟨Nat.le_of_ble_eq_true rfl, Nat.le_of_ble_eq_true rfl⟩ (fun H locs hP hD hS => ?_)
  refine lv_if_ne (tgt := 13) hx hb dX6_move_6 (by decide) (fun c1 => ?_) (fun c1 => ?_)
  · have c1 := bI_1 c1
    obtain ⟨j, hj, rfl⟩ := mem_nat hn c1
    refine lv_iload_n hx hb dX6_move_13 rfl (lv_at hl 2 rfl) ?_
    refine lv_iconst (v := 1) hx hb dX6_move_14 (by decide) ?_
    refine lv_icmp_ge (tgt := 22) hx hb dX6_move_15 (by decide) (fun c2 => ?_) (fun c2 => ?_)
    · have c2 := z_nlt c2
      refine lv_aload_n hx hb dX6_move_22 rfl (lv_at hl 0 rfl) ?_
      refine lv_iload_n hx hb dX6_move_23 rfl (lv_at hl 1 rfl) ?_
      refine lv_iload_n hx hb dX6_move_24 rfl (lv_at hl 2 rfl) ?_
      refine z_callV1 (rest := [.ref (q 0)]) S (c_X6_canMove (hB) j (show j < 8 by omega) mn) qm_X6_111 v_X6_canMove ⟨Nat.le_of_ble_eq_true rfl, Nat.le_of_ble_eq_true rfl⟩ rfl rfl hN hK hP hD hS hA (0) (mo_0) rfl rfl hl.1 rfl (Nat.le_of_ble_eq_true rfl) dX6_move_25 ⟨Nat.le_of_ble_eq_true rfl, Nat.le_of_ble_eq_true rfl⟩ (fun H locs hP hD hS => ?_)
      refine lv_if_eq (tgt := 35) hx hb dX6_move_28 (by decide) (fun c3 => ?_) (fun c3 => ?_)
      · have c3 := bI_0 c3
        refine lv_iconst (v := 3) hx hb dX6_move_35 (by decide) ?_
        refine z_put (v := .int 3) (ty := .int) (ws2 := moW cI q z hi tx pa ke (upd mr 2 3) hs wr) hx hb hts inTX6 tyX6 tyX6_ok nmX6 hown hK hP hD hS (0) (mo_0) rfl 5 (by decide) (hts _ qf_X6_25) (fun _ h9 => h9) rfl (by decide +kernel) (rfl) (rfl) (Nat.le_of_ble_eq_true rfl) dX6_move_36 (mo_w0 _ mfl_s2) (fun H locs hP hD hS => ?_)
        refine lv_aload_n hx hb dX6_move_39 rfl (lv_at hl 0 rfl) ?_
        refine va_get (v := .int 3) hx hb hts inTX6 hown hK hP (0) (mo_0) rfl 5 (by decide) (hts _ qf_X6_25) (fun _ h9 => h9) (congrArg (fun x => some (Value.int x)) (upd_eq rfl)) dX6_move_40 ?_
        refine lv_if_le (tgt := 48) hx hb dX6_move_43 (by decide) (fun c4 => absurd c4 (by decide)) (fun c4 => ?_)
        have c4 := z_lt c4
        refine lv_iconst (v := 0) hx hb dX6_move_46 (by decide) ?_
        exact z_iret hx hb hr hlocks hP hD hK hS (Eq.symm (xwf_n (K := kMove z n (nI j) mn) (k := 3) (by first | (simp only [kMove, mP, sP, inP, cl, alwP, alwM, cvP, c1, nI_clamp (show j < 2 ^ 31 by omega), c2, c3, c4, not_true_eq_false, not_false_eq_true, and_self, and_true, true_and, and_false, false_and, or_true, true_or, or_false, false_or, if_true, if_false, ite_true, ite_false]; done) | (simp [kMove, mP, sP, inP, cl, alwP, alwM, cvP, c1, nI_clamp (show j < 2 ^ 31 by omega), c2, c3, c4]; done) | (simp_all [kMove, mP, sP, inP, cl, alwP, alwM, cvP]; done)) (by decide))) (congrArg (fun y_ => some (Value.int y_)) (Eq.symm (xv_n (K := kMove z n (nI j) mn) (k := 3) (by first | (simp only [kMove, mP, sP, inP, cl, alwP, alwM, cvP, c1, nI_clamp (show j < 2 ^ 31 by omega), c2, c3, c4, not_true_eq_false, not_false_eq_true, and_self, and_true, true_and, and_false, false_and, or_true, true_or, or_false, false_or, if_true, if_false, ite_true, ite_false]; done) | (simp [kMove, mP, sP, inP, cl, alwP, alwM, cvP, c1, nI_clamp (show j < 2 ^ 31 by omega), c2, c3, c4]; done) | (simp_all [kMove, mP, sP, inP, cl, alwP, alwM, cvP]; done)) (by decide)))) dX6_move_47
      · have c3 := bI_1 c3
        refine lv_iconst (v := 0) hx hb dX6_move_31 (by decide) ?_
        refine lv_goto (tgt := 36) hx hb dX6_move_32 (by decide) ?_
        refine z_put (v := .int 0) (ty := .int) (ws2 := moW cI q z hi tx pa ke (upd mr 2 0) hs wr) hx hb hts inTX6 tyX6 tyX6_ok nmX6 hown hK hP hD hS (0) (mo_0) rfl 5 (by decide) (hts _ qf_X6_25) (fun _ h9 => h9) rfl (by decide +kernel) (rfl) (rfl) (Nat.le_of_ble_eq_true rfl) dX6_move_36 (mo_w0 _ mfl_s2) (fun H locs hP hD hS => ?_)
        refine lv_aload_n hx hb dX6_move_39 rfl (lv_at hl 0 rfl) ?_
        refine va_get (v := .int 0) hx hb hts inTX6 hown hK hP (0) (mo_0) rfl 5 (by decide) (hts _ qf_X6_25) (fun _ h9 => h9) (congrArg (fun x => some (Value.int x)) (upd_eq rfl)) dX6_move_40 ?_
        refine lv_if_le (tgt := 48) hx hb dX6_move_43 (by decide) (fun c5 => ?_) (fun c5 => absurd (by decide) c5)
        have c5 := z_nlt c5
        refine lv_aload_n hx hb dX6_move_48 rfl (lv_at hl 0 rfl) ?_
        refine z_callV0 (rest := []) S (c_X6_save (u := u) (by omega) ((upd_ne (by omega)).trans (hm))) qm_X6_58 v_X6_save ⟨Nat.le_of_ble_eq_true rfl, Nat.le_of_ble_eq_true rfl⟩ rfl rfl hN hK hP hD hS hA (0) (mo_0) rfl rfl hl.1 rfl (Nat.le_of_ble_eq_true rfl) dX6_move_49 ⟨Nat.le_of_ble_eq_true rfl, Nat.le_of_ble_eq_true rfl⟩ (fun H locs hP hD hS => ?_)
        refine lv_aload_n hx hb dX6_move_52 rfl (lv_at hl 0 rfl) ?_
        refine va_get (v := .ref (q 1)) hx hb hts inTX6 hown hK hP (0) (mo_0) rfl 0 (by decide) (hts _ qf_X6_7) (fun _ h9 => h9) (rfl) dX6_move_53 ?_
        refine lv_bipush (v := 10) hx hb dX6_move_56 (by decide) ?_
        refine lv_iload_n hx hb dX6_move_58 rfl (lv_at hl 1 rfl) ?_
        refine z_iast (ws2 := moW cI q (upd z 10 (nI j)) (svH hi z u) tx pa ke (upd (upd mr 2 0) 0 (nI (min (u + 1) 6))) hs wr) hx hb hK hP hD hS (1) 0 (mo_1) rfl (vp_in_nI (show 10 < 142 by decide) (by omega)) dX6_move_59 (mo_w1 (z_cl (k := 10) rfl) (by omega)) (fun H locs hP hD hS => ?_)
        refine lv_aload_n hx hb dX6_move_60 rfl (lv_at hl 0 rfl) ?_
        refine va_get (v := .ref (q 1)) hx hb hts inTX6 hown hK hP (0) (mo_0) rfl 0 (by decide) (hts _ qf_X6_7) (fun _ h9 => h9) (rfl) dX6_move_61 ?_
        refine lv_bipush (v := 11) hx hb dX6_move_64 (by decide) ?_
        refine lv_iload_n hx hb dX6_move_66 rfl (lv_at hl 2 rfl) ?_
        refine z_iast (ws2 := moW cI q (upd (upd z 10 (nI j)) 11 mn) (svH hi z u) tx pa ke (upd (upd mr 2 0) 0 (nI (min (u + 1) 6))) hs wr) hx hb hK hP hD hS (1) 0 (mo_1) rfl (vp_in_nI (show 11 < 142 by decide) (by omega)) dX6_move_67 (mo_w1 (z_cl (k := 11) rfl) (by omega)) (fun H locs hP hD hS => ?_)
        refine lv_aload_n hx hb dX6_move_68 rfl (lv_at hl 0 rfl) ?_
        refine lv_iload_n hx hb dX6_move_69 rfl (lv_at hl 1 rfl) ?_
        refine z_callV1 (rest := []) S (c_X6_othersOf (n := n) (show n ≤ 8 by omega) ((upd_ne (by omega)).trans ((upd_ne (by omega)).trans (hz))) (updB_x (updB_x (hB) (fun i_ _ => by omega)) (fun i_ _ => by omega)) j (show j < 8 by omega)) qm_X6_44 v_X6_othersOf ⟨Nat.le_of_ble_eq_true rfl, Nat.le_of_ble_eq_true rfl⟩ rfl rfl hN hK hP hD hS hA (0) (mo_0) rfl rfl hl.1 rfl (Nat.le_of_ble_eq_true rfl) dX6_move_70 ⟨Nat.le_of_ble_eq_true rfl, Nat.le_of_ble_eq_true rfl⟩ (fun H locs hP hD hS => ?_)
        exact z_iret hx hb hr hlocks hP hD hK hS (Eq.trans (b := moW cI q (upd (upd z 10 (nI j)) 11 mn) (svH hi z u) tx pa ke (upd (upd mr 2 0) 0 (nI (min (u + 1) 6))) hs wr) (by simp only [cl, nI_clamp (show j < 2 ^ 31 by omega)]) (Eq.symm (xwf_0 (K := kMove z n (nI j) mn) (by first | (simp only [kMove, mP, sP, inP, cl, alwP, alwM, cvP, c1, nI_clamp (show j < 2 ^ 31 by omega), c2, c3, c5, not_true_eq_false, not_false_eq_true, and_self, and_true, true_and, and_false, false_and, or_true, true_or, or_false, false_or, if_true, if_false, ite_true, ite_false]; done) | (simp [kMove, mP, sP, inP, cl, alwP, alwM, cvP, c1, nI_clamp (show j < 2 ^ 31 by omega), c2, c3, c5]; done) | (simp_all [kMove, mP, sP, inP, cl, alwP, alwM, cvP]; done))))) (congrArg (fun y_ => some (Value.int y_)) (Eq.trans (b := cntT (upd (upd z 10 (nI j)) 11 mn) n - upd (upd z 10 (nI j)) 11 mn (14 + 16 * cl (nI j))) (by simp only [cl, nI_clamp (show j < 2 ^ 31 by omega)]) (Eq.symm (xv_0 (K := kMove z n (nI j) mn) (by first | (simp only [kMove, mP, sP, inP, cl, alwP, alwM, cvP, c1, nI_clamp (show j < 2 ^ 31 by omega), c2, c3, c5, not_true_eq_false, not_false_eq_true, and_self, and_true, true_and, and_false, false_and, or_true, true_or, or_false, false_or, if_true, if_false, ite_true, ite_false]; done) | (simp [kMove, mP, sP, inP, cl, alwP, alwM, cvP, c1, nI_clamp (show j < 2 ^ 31 by omega), c2, c3, c5]; done) | (simp_all [kMove, mP, sP, inP, cl, alwP, alwM, cvP]; done)))))) dX6_move_73
    · have c2 := z_lt c2
      refine lv_iconst (v := 2) hx hb dX6_move_18 (by decide) ?_
      refine lv_goto (tgt := 36) hx hb dX6_move_19 (by decide) ?_
      refine z_put (v := .int 2) (ty := .int) (ws2 := moW cI q z hi tx pa ke (upd mr 2 2) hs wr) hx hb hts inTX6 tyX6 tyX6_ok nmX6 hown hK hP hD hS (0) (mo_0) rfl 5 (by decide) (hts _ qf_X6_25) (fun _ h9 => h9) rfl (by decide +kernel) (rfl) (rfl) (Nat.le_of_ble_eq_true rfl) dX6_move_36 (mo_w0 _ mfl_s2) (fun H locs hP hD hS => ?_)
      refine lv_aload_n hx hb dX6_move_39 rfl (lv_at hl 0 rfl) ?_
      refine va_get (v := .int 2) hx hb hts inTX6 hown hK hP (0) (mo_0) rfl 5 (by decide) (hts _ qf_X6_25) (fun _ h9 => h9) (congrArg (fun x => some (Value.int x)) (upd_eq rfl)) dX6_move_40 ?_
      refine lv_if_le (tgt := 48) hx hb dX6_move_43 (by decide) (fun c6 => absurd c6 (by decide)) (fun c6 => ?_)
      have c6 := z_lt c6
      refine lv_iconst (v := 0) hx hb dX6_move_46 (by decide) ?_
      exact z_iret hx hb hr hlocks hP hD hK hS (Eq.symm (xwf_n (K := kMove z n (nI j) mn) (k := 2) (by first | (simp only [kMove, mP, sP, inP, cl, alwP, alwM, cvP, c1, nI_clamp (show j < 2 ^ 31 by omega), c2, c6, not_true_eq_false, not_false_eq_true, and_self, and_true, true_and, and_false, false_and, or_true, true_or, or_false, false_or, if_true, if_false, ite_true, ite_false]; done) | (simp [kMove, mP, sP, inP, cl, alwP, alwM, cvP, c1, nI_clamp (show j < 2 ^ 31 by omega), c2, c6]; done) | (simp_all [kMove, mP, sP, inP, cl, alwP, alwM, cvP]; done)) (by decide))) (congrArg (fun y_ => some (Value.int y_)) (Eq.symm (xv_n (K := kMove z n (nI j) mn) (k := 2) (by first | (simp only [kMove, mP, sP, inP, cl, alwP, alwM, cvP, c1, nI_clamp (show j < 2 ^ 31 by omega), c2, c6, not_true_eq_false, not_false_eq_true, and_self, and_true, true_and, and_false, false_and, or_true, true_or, or_false, false_or, if_true, if_false, ite_true, ite_false]; done) | (simp [kMove, mP, sP, inP, cl, alwP, alwM, cvP, c1, nI_clamp (show j < 2 ^ 31 by omega), c2, c6]; done) | (simp_all [kMove, mP, sP, inP, cl, alwP, alwM, cvP]; done)) (by decide)))) dX6_move_47
  · have c1 := bI_0 c1
    refine lv_iconst (v := 1) hx hb dX6_move_9 (by decide) ?_
    refine lv_goto (tgt := 36) hx hb dX6_move_10 (by decide) ?_
    refine z_put (v := .int 1) (ty := .int) (ws2 := moW cI q z hi tx pa ke (upd mr 2 1) hs wr) hx hb hts inTX6 tyX6 tyX6_ok nmX6 hown hK hP hD hS (0) (mo_0) rfl 5 (by decide) (hts _ qf_X6_25) (fun _ h9 => h9) rfl (by decide +kernel) (rfl) (rfl) (Nat.le_of_ble_eq_true rfl) dX6_move_36 (mo_w0 _ mfl_s2) (fun H locs hP hD hS => ?_)
    refine lv_aload_n hx hb dX6_move_39 rfl (lv_at hl 0 rfl) ?_
    refine va_get (v := .int 1) hx hb hts inTX6 hown hK hP (0) (mo_0) rfl 5 (by decide) (hts _ qf_X6_25) (fun _ h9 => h9) (congrArg (fun x => some (Value.int x)) (upd_eq rfl)) dX6_move_40 ?_
    refine lv_if_le (tgt := 48) hx hb dX6_move_43 (by decide) (fun c7 => absurd c7 (by decide)) (fun c7 => ?_)
    have c7 := z_lt c7
    refine lv_iconst (v := 0) hx hb dX6_move_46 (by decide) ?_
    exact z_iret hx hb hr hlocks hP hD hK hS (Eq.symm (xwf_n (K := kMove z n mb mn) (k := 1) (by first | (simp only [kMove, mP, sP, inP, cl, alwP, alwM, cvP, c1, c7, not_true_eq_false, not_false_eq_true, and_self, and_true, true_and, and_false, false_and, or_true, true_or, or_false, false_or, if_true, if_false, ite_true, ite_false]; done) | (simp [kMove, mP, sP, inP, cl, alwP, alwM, cvP, c1, c7]; done) | (simp_all [kMove, mP, sP, inP, cl, alwP, alwM, cvP]; done)) (by decide))) (congrArg (fun y_ => some (Value.int y_)) (Eq.symm (xv_n (K := kMove z n mb mn) (k := 1) (by first | (simp only [kMove, mP, sP, inP, cl, alwP, alwM, cvP, c1, c7, not_true_eq_false, not_false_eq_true, and_self, and_true, true_and, and_false, false_and, or_true, true_or, or_false, false_or, if_true, if_false, ite_true, ite_false]; done) | (simp [kMove, mP, sP, inP, cl, alwP, alwM, cvP, c1, c7]; done) | (simp_all [kMove, mP, sP, inP, cl, alwP, alwM, cvP]; done)) (by decide)))) dX6_move_47
set_option maxHeartbeats 4000000 in
set_option maxRecDepth 100000 in
theorem c_X6_vote_b {n : Nat} (hn : n ≤ 8) (hz : z 5 = nI n) {u : Nat} (hu : u ≤ 6) (hm : mr 0 = nI u) (hB : hBool z) (hV : hVote z) {d : Nat} (hd : d < n) (hz2 : z 10 = nI d) (mb bf : Int32) : zM l D (zT cI cC cM cB cJ) yX6_vote cX6_vote 3 (some .int) ({ frames := 4, cells := 0, slots := 0, locals := 87 } : Room) [.ref (q 0), .int mb, .int bf] (moW cI q z hi tx pa ke mr hs wr) (xwf (kVote z n mb) (moW cI q (lkZ (qz_vote z (cl mb) bf) n d) (svH hi z u) tx pa ke (upd (upd mr 2 0) 0 (nI (min (u + 1) 6))) hs wr) (fun k_ => moW cI q z hi tx pa ke (upd mr 2 k_) hs wr)) (some (.int (xv (kVote z n mb) (lkR (qz_vote z (cl mb) bf) n d)))) 0 0 := by
  refine z_enter (by decide) (Nat.le_of_ble_eq_true rfl) ?_
  intro p e s m below meth c A S hr hlocks hnm hN hA hK hP hD hS ls hl
  obtain ⟨hx, hb, hml, hown, hts⟩ := id S
  have hl : lv_has ls 3 [(0, .ref (q 0)), (1, .int mb), (2, .int bf)] := hl
  have hP : va_P D vwCl (moW cI q z hi tx pa ke mr hs wr) s.heap := hP
  have hD : va_D A (moW cI q z hi tx pa ke mr hs wr) := hD
  refine lv_aload_n hx hb dX6_vote_0 rfl (lv_at hl 0 rfl) ?_
  refine lv_aload_n hx hb dX6_vote_1 rfl (lv_at hl 0 rfl) ?_
  refine lv_iload_n hx hb dX6_vote_2 rfl (lv_at hl 1 rfl) ?_
  refine z_callV1 (rest := [.ref (q 0)]) S (c_X6_isMember (n := n) (show n ≤ 8 by omega) (hz) mb) qm_X6_64 v_X6_isMember ⟨Nat.le_of_ble_eq_true rfl, Nat.le_of_ble_eq_true rfl⟩ rfl rfl hN hK hP hD hS hA (0) (mo_0) rfl rfl hl.1 rfl (Nat.le_of_ble_eq_true rfl) dX6_vote_3 ⟨Nat.le_of_ble_eq_true rfl, Nat.le_of_ble_eq_true rfl⟩ (fun H locs hP hD hS => ?_)
  refine lv_if_ne (tgt := 13) hx hb dX6_vote_6 (by decide) (fun c1 => ?_) (fun c1 => ?_)
  · have c1 := bI_1 c1
    obtain ⟨j, hj, rfl⟩ := mem_nat hn c1
    refine lv_aload_n hx hb dX6_vote_13 rfl (lv_at hl 0 rfl) ?_
    refine lv_iload_n hx hb dX6_vote_14 rfl (lv_at hl 1 rfl) ?_
    refine z_callV1 (rest := [.ref (q 0)]) S (c_X6_canVote (hB) hV j (show j < 8 by omega)) qm_X6_117 v_X6_canVote ⟨Nat.le_of_ble_eq_true rfl, Nat.le_of_ble_eq_true rfl⟩ rfl rfl hN hK hP hD hS hA (0) (mo_0) rfl rfl hl.1 rfl (Nat.le_of_ble_eq_true rfl) dX6_vote_15 ⟨Nat.le_of_ble_eq_true rfl, Nat.le_of_ble_eq_true rfl⟩ (fun H locs hP hD hS => ?_)
    refine lv_if_eq (tgt := 25) hx hb dX6_vote_18 (by decide) (fun c2 => ?_) (fun c2 => ?_)
    · have c2 := bI_0 c2
      refine lv_iconst (v := 2) hx hb dX6_vote_25 (by decide) ?_
      refine z_put (v := .int 2) (ty := .int) (ws2 := moW cI q z hi tx pa ke (upd mr 2 2) hs wr) hx hb hts inTX6 tyX6 tyX6_ok nmX6 hown hK hP hD hS (0) (mo_0) rfl 5 (by decide) (hts _ qf_X6_25) (fun _ h9 => h9) rfl (by decide +kernel) (rfl) (rfl) (Nat.le_of_ble_eq_true rfl) dX6_vote_26 (mo_w0 _ mfl_s2) (fun H locs hP hD hS => ?_)
      refine lv_aload_n hx hb dX6_vote_29 rfl (lv_at hl 0 rfl) ?_
      refine va_get (v := .int 2) hx hb hts inTX6 hown hK hP (0) (mo_0) rfl 5 (by decide) (hts _ qf_X6_25) (fun _ h9 => h9) (congrArg (fun x => some (Value.int x)) (upd_eq rfl)) dX6_vote_30 ?_
      refine lv_if_le (tgt := 38) hx hb dX6_vote_33 (by decide) (fun c3 => absurd c3 (by decide)) (fun c3 => ?_)
      have c3 := z_lt c3
      refine lv_iconst (v := 0) hx hb dX6_vote_36 (by decide) ?_
      exact z_iret hx hb hr hlocks hP hD hK hS (Eq.symm (xwf_n (K := kVote z n (nI j)) (k := 2) (by first | (simp only [kVote, mP, sP, inP, cl, alwP, alwM, cvP, c1, nI_clamp (show j < 2 ^ 31 by omega), c2, c3, not_true_eq_false, not_false_eq_true, and_self, and_true, true_and, and_false, false_and, or_true, true_or, or_false, false_or, if_true, if_false, ite_true, ite_false]; done) | (simp [kVote, mP, sP, inP, cl, alwP, alwM, cvP, c1, nI_clamp (show j < 2 ^ 31 by omega), c2, c3]; done) | (simp_all [kVote, mP, sP, inP, cl, alwP, alwM, cvP]; done)) (by decide))) (congrArg (fun y_ => some (Value.int y_)) (Eq.symm (xv_n (K := kVote z n (nI j)) (k := 2) (by first | (simp only [kVote, mP, sP, inP, cl, alwP, alwM, cvP, c1, nI_clamp (show j < 2 ^ 31 by omega), c2, c3, not_true_eq_false, not_false_eq_true, and_self, and_true, true_and, and_false, false_and, or_true, true_or, or_false, false_or, if_true, if_false, ite_true, ite_false]; done) | (simp [kVote, mP, sP, inP, cl, alwP, alwM, cvP, c1, nI_clamp (show j < 2 ^ 31 by omega), c2, c3]; done) | (simp_all [kVote, mP, sP, inP, cl, alwP, alwM, cvP]; done)) (by decide)))) dX6_vote_37
    · have c2 := bI_1 c2
      refine lv_iconst (v := 0) hx hb dX6_vote_21 (by decide) ?_
      refine lv_goto (tgt := 26) hx hb dX6_vote_22 (by decide) ?_
      refine z_put (v := .int 0) (ty := .int) (ws2 := moW cI q z hi tx pa ke (upd mr 2 0) hs wr) hx hb hts inTX6 tyX6 tyX6_ok nmX6 hown hK hP hD hS (0) (mo_0) rfl 5 (by decide) (hts _ qf_X6_25) (fun _ h9 => h9) rfl (by decide +kernel) (rfl) (rfl) (Nat.le_of_ble_eq_true rfl) dX6_vote_26 (mo_w0 _ mfl_s2) (fun H locs hP hD hS => ?_)
      refine lv_aload_n hx hb dX6_vote_29 rfl (lv_at hl 0 rfl) ?_
      refine va_get (v := .int 0) hx hb hts inTX6 hown hK hP (0) (mo_0) rfl 5 (by decide) (hts _ qf_X6_25) (fun _ h9 => h9) (congrArg (fun x => some (Value.int x)) (upd_eq rfl)) dX6_vote_30 ?_
      refine lv_if_le (tgt := 38) hx hb dX6_vote_33 (by decide) (fun c4 => ?_) (fun c4 => absurd (by decide) c4)
      have c4 := z_nlt c4
      refine lv_aload_n hx hb dX6_vote_38 rfl (lv_at hl 0 rfl) ?_
      refine z_callV0 (rest := []) S (c_X6_save (u := u) (by omega) ((upd_ne (by omega)).trans (hm))) qm_X6_58 v_X6_save ⟨Nat.le_of_ble_eq_true rfl, Nat.le_of_ble_eq_true rfl⟩ rfl rfl hN hK hP hD hS hA (0) (mo_0) rfl rfl hl.1 rfl (Nat.le_of_ble_eq_true rfl) dX6_vote_39 ⟨Nat.le_of_ble_eq_true rfl, Nat.le_of_ble_eq_true rfl⟩ (fun H locs hP hD hS => ?_)
      refine lv_aload_n hx hb dX6_vote_42 rfl (lv_at hl 0 rfl) ?_
      refine va_get (v := .ref (q 1)) hx hb hts inTX6 hown hK hP (0) (mo_0) rfl 0 (by decide) (hts _ qf_X6_7) (fun _ h9 => h9) (rfl) dX6_vote_43 ?_
      refine lv_iload_n hx hb dX6_vote_46 rfl (lv_at hl 2 rfl) ?_
      refine lv_if_eq (tgt := 55) hx hb dX6_vote_47 (by decide) (fun c5 => ?_) (fun c5 => ?_)
      · skip
        refine lv_bipush (v := 13) hx hb dX6_vote_55 (by decide) ?_
        refine lv_dup2_11 hx hb dX6_vote_57 rfl rfl ?_
        refine va_iald hx hb hK hP (1) 0 (mo_1) rfl (vp_in_nI (show 13 < 142 by decide) (by omega)) dX6_vote_58 ?_
        refine z_top (v2 := .int (z 13)) (congrArg Value.int (((congrArg (zfn z) (z_cl (k := 13) rfl)).trans (zfn_at (by omega))).trans (rfl))) ?_
        refine lv_iconst (v := 1) hx hb dX6_vote_59 (by decide) ?_
        refine lv_iload_n hx hb dX6_vote_60 rfl (lv_at hl 1 rfl) ?_
        refine lv_ishl hx hb dX6_vote_61  ?_
        refine lv_ior hx hb dX6_vote_62  ?_
        refine z_iast (ws2 := moW cI q (upd z 13 ((z 13) ||| (1 <<< ((nI j) &&& 31)))) (svH hi z u) tx pa ke (upd (upd mr 2 0) 0 (nI (min (u + 1) 6))) hs wr) hx hb hK hP hD hS (1) 0 (mo_1) rfl (vp_in_nI (show 13 < 142 by decide) (by omega)) dX6_vote_63 (mo_w1 (z_cl (k := 13) rfl) (by omega)) (fun H locs hP hD hS => ?_)
        refine lv_aload_n hx hb dX6_vote_64 rfl (lv_at hl 0 rfl) ?_
        refine z_callV1 (rest := []) S (c_X6_lookAt (n := n) (show n ≤ 8 by omega) ((upd_ne (by omega)).trans (hz)) (updB_x (hB) (fun i_ _ => by omega)) (d := d) (show d < n by omega) ((upd_ne (by omega)).trans (hz2))) qm_X6_71 v_X6_lookAt ⟨Nat.le_of_ble_eq_true rfl, Nat.le_of_ble_eq_true rfl⟩ rfl rfl hN hK hP hD hS hA (0) (mo_0) rfl rfl hl.1 rfl (Nat.le_of_ble_eq_true rfl) dX6_vote_65 ⟨Nat.le_of_ble_eq_true rfl, Nat.le_of_ble_eq_true rfl⟩ (fun H locs hP hD hS => ?_)
        exact z_iret hx hb hr hlocks hP hD hK hS (Eq.trans (b := moW cI q (lkZ (qz_vote z (cl (nI j)) bf) n d) (svH hi z u) tx pa ke (upd (upd mr 2 0) 0 (nI (min (u + 1) 6))) hs wr) (by simp only [cl, qz_vote, nI_clamp (show j < 2 ^ 31 by omega)]; rw [if_pos c5]) (Eq.symm (xwf_0 (K := kVote z n (nI j)) (by first | (simp only [kVote, mP, sP, inP, cl, alwP, alwM, cvP, c1, nI_clamp (show j < 2 ^ 31 by omega), c2, c4, c5, not_true_eq_false, not_false_eq_true, and_self, and_true, true_and, and_false, false_and, or_true, true_or, or_false, false_or, if_true, if_false, ite_true, ite_false]; done) | (simp [kVote, mP, sP, inP, cl, alwP, alwM, cvP, c1, nI_clamp (show j < 2 ^ 31 by omega), c2, c4, c5]; done) | (simp_all [kVote, mP, sP, inP, cl, alwP, alwM, cvP]; done))))) (congrArg (fun y_ => some (Value.int y_)) (Eq.trans (b := lkR (qz_vote z (cl (nI j)) bf) n d) (by simp only [cl, qz_vote, nI_clamp (show j < 2 ^ 31 by omega)]; rw [if_pos c5]) (Eq.symm (xv_0 (K := kVote z n (nI j)) (by first | (simp only [kVote, mP, sP, inP, cl, alwP, alwM, cvP, c1, nI_clamp (show j < 2 ^ 31 by omega), c2, c4, c5, not_true_eq_false, not_false_eq_true, and_self, and_true, true_and, and_false, false_and, or_true, true_or, or_false, false_or, if_true, if_false, ite_true, ite_false]; done) | (simp [kVote, mP, sP, inP, cl, alwP, alwM, cvP, c1, nI_clamp (show j < 2 ^ 31 by omega), c2, c4, c5]; done) | (simp_all [kVote, mP, sP, inP, cl, alwP, alwM, cvP]; done)))))) dX6_vote_68
      · skip
        refine lv_bipush (v := 12) hx hb dX6_vote_50 (by decide) ?_
        refine lv_goto (tgt := 57) hx hb dX6_vote_52 (by decide) ?_
        refine lv_dup2_11 hx hb dX6_vote_57 rfl rfl ?_
        refine va_iald hx hb hK hP (1) 0 (mo_1) rfl (vp_in_nI (show 12 < 142 by decide) (by omega)) dX6_vote_58 ?_
        refine z_top (v2 := .int (z 12)) (congrArg Value.int (((congrArg (zfn z) (z_cl (k := 12) rfl)).trans (zfn_at (by omega))).trans (rfl))) ?_
        refine lv_iconst (v := 1) hx hb dX6_vote_59 (by decide) ?_
        refine lv_iload_n hx hb dX6_vote_60 rfl (lv_at hl 1 rfl) ?_
        refine lv_ishl hx hb dX6_vote_61  ?_
        refine lv_ior hx hb dX6_vote_62  ?_
        refine z_iast (ws2 := moW cI q (upd z 12 ((z 12) ||| (1 <<< ((nI j) &&& 31)))) (svH hi z u) tx pa ke (upd (upd mr 2 0) 0 (nI (min (u + 1) 6))) hs wr) hx hb hK hP hD hS (1) 0 (mo_1) rfl (vp_in_nI (show 12 < 142 by decide) (by omega)) dX6_vote_63 (mo_w1 (z_cl (k := 12) rfl) (by omega)) (fun H locs hP hD hS => ?_)
        refine lv_aload_n hx hb dX6_vote_64 rfl (lv_at hl 0 rfl) ?_
        refine z_callV1 (rest := []) S (c_X6_lookAt (n := n) (show n ≤ 8 by omega) ((upd_ne (by omega)).trans (hz)) (updB_x (hB) (fun i_ _ => by omega)) (d := d) (show d < n by omega) ((upd_ne (by omega)).trans (hz2))) qm_X6_71 v_X6_lookAt ⟨Nat.le_of_ble_eq_true rfl, Nat.le_of_ble_eq_true rfl⟩ rfl rfl hN hK hP hD hS hA (0) (mo_0) rfl rfl hl.1 rfl (Nat.le_of_ble_eq_true rfl) dX6_vote_65 ⟨Nat.le_of_ble_eq_true rfl, Nat.le_of_ble_eq_true rfl⟩ (fun H locs hP hD hS => ?_)
        exact z_iret hx hb hr hlocks hP hD hK hS (Eq.trans (b := moW cI q (lkZ (qz_vote z (cl (nI j)) bf) n d) (svH hi z u) tx pa ke (upd (upd mr 2 0) 0 (nI (min (u + 1) 6))) hs wr) (by simp only [cl, qz_vote, nI_clamp (show j < 2 ^ 31 by omega)]; rw [if_neg c5]) (Eq.symm (xwf_0 (K := kVote z n (nI j)) (by first | (simp only [kVote, mP, sP, inP, cl, alwP, alwM, cvP, c1, nI_clamp (show j < 2 ^ 31 by omega), c2, c4, c5, not_true_eq_false, not_false_eq_true, and_self, and_true, true_and, and_false, false_and, or_true, true_or, or_false, false_or, if_true, if_false, ite_true, ite_false]; done) | (simp [kVote, mP, sP, inP, cl, alwP, alwM, cvP, c1, nI_clamp (show j < 2 ^ 31 by omega), c2, c4, c5]; done) | (simp_all [kVote, mP, sP, inP, cl, alwP, alwM, cvP]; done))))) (congrArg (fun y_ => some (Value.int y_)) (Eq.trans (b := lkR (qz_vote z (cl (nI j)) bf) n d) (by simp only [cl, qz_vote, nI_clamp (show j < 2 ^ 31 by omega)]; rw [if_neg c5]) (Eq.symm (xv_0 (K := kVote z n (nI j)) (by first | (simp only [kVote, mP, sP, inP, cl, alwP, alwM, cvP, c1, nI_clamp (show j < 2 ^ 31 by omega), c2, c4, c5, not_true_eq_false, not_false_eq_true, and_self, and_true, true_and, and_false, false_and, or_true, true_or, or_false, false_or, if_true, if_false, ite_true, ite_false]; done) | (simp [kVote, mP, sP, inP, cl, alwP, alwM, cvP, c1, nI_clamp (show j < 2 ^ 31 by omega), c2, c4, c5]; done) | (simp_all [kVote, mP, sP, inP, cl, alwP, alwM, cvP]; done)))))) dX6_vote_68
  · have c1 := bI_0 c1
    refine lv_iconst (v := 1) hx hb dX6_vote_9 (by decide) ?_
    refine lv_goto (tgt := 26) hx hb dX6_vote_10 (by decide) ?_
    refine z_put (v := .int 1) (ty := .int) (ws2 := moW cI q z hi tx pa ke (upd mr 2 1) hs wr) hx hb hts inTX6 tyX6 tyX6_ok nmX6 hown hK hP hD hS (0) (mo_0) rfl 5 (by decide) (hts _ qf_X6_25) (fun _ h9 => h9) rfl (by decide +kernel) (rfl) (rfl) (Nat.le_of_ble_eq_true rfl) dX6_vote_26 (mo_w0 _ mfl_s2) (fun H locs hP hD hS => ?_)
    refine lv_aload_n hx hb dX6_vote_29 rfl (lv_at hl 0 rfl) ?_
    refine va_get (v := .int 1) hx hb hts inTX6 hown hK hP (0) (mo_0) rfl 5 (by decide) (hts _ qf_X6_25) (fun _ h9 => h9) (congrArg (fun x => some (Value.int x)) (upd_eq rfl)) dX6_vote_30 ?_
    refine lv_if_le (tgt := 38) hx hb dX6_vote_33 (by decide) (fun c6 => absurd c6 (by decide)) (fun c6 => ?_)
    have c6 := z_lt c6
    refine lv_iconst (v := 0) hx hb dX6_vote_36 (by decide) ?_
    exact z_iret hx hb hr hlocks hP hD hK hS (Eq.symm (xwf_n (K := kVote z n mb) (k := 1) (by first | (simp only [kVote, mP, sP, inP, cl, alwP, alwM, cvP, c1, c6, not_true_eq_false, not_false_eq_true, and_self, and_true, true_and, and_false, false_and, or_true, true_or, or_false, false_or, if_true, if_false, ite_true, ite_false]; done) | (simp [kVote, mP, sP, inP, cl, alwP, alwM, cvP, c1, c6]; done) | (simp_all [kVote, mP, sP, inP, cl, alwP, alwM, cvP]; done)) (by decide))) (congrArg (fun y_ => some (Value.int y_)) (Eq.symm (xv_n (K := kVote z n mb) (k := 1) (by first | (simp only [kVote, mP, sP, inP, cl, alwP, alwM, cvP, c1, c6, not_true_eq_false, not_false_eq_true, and_self, and_true, true_and, and_false, false_and, or_true, true_or, or_false, false_or, if_true, if_false, ite_true, ite_false]; done) | (simp [kVote, mP, sP, inP, cl, alwP, alwM, cvP, c1, c6]; done) | (simp_all [kVote, mP, sP, inP, cl, alwP, alwM, cvP]; done)) (by decide)))) dX6_vote_37
set_option maxHeartbeats 4000000 in
set_option maxRecDepth 100000 in
theorem c_X6_vote_a {n : Nat} (hn : n ≤ 8) (hz : z 5 = nI n) {u : Nat} (hu : u ≤ 6) (hm : mr 0 = nI u) (hB : hBool z) (hV : hVote z) (hz2 : z 10 = -1) (mb bf : Int32) : zM l D (zT cI cC cM cB cJ) yX6_vote cX6_vote 3 (some .int) ({ frames := 4, cells := 0, slots := 0, locals := 87 } : Room) [.ref (q 0), .int mb, .int bf] (moW cI q z hi tx pa ke mr hs wr) (xwf (kVote z n mb) (moW cI q z hi tx pa ke mr hs wr) (fun k_ => moW cI q z hi tx pa ke (upd mr 2 k_) hs wr)) (some (.int (xv (kVote z n mb) (0)))) 0 0 := by
  refine z_enter (by decide) (Nat.le_of_ble_eq_true rfl) ?_
  intro p e s m below meth c A S hr hlocks hnm hN hA hK hP hD hS ls hl
  obtain ⟨hx, hb, hml, hown, hts⟩ := id S
  have hl : lv_has ls 3 [(0, .ref (q 0)), (1, .int mb), (2, .int bf)] := hl
  have hP : va_P D vwCl (moW cI q z hi tx pa ke mr hs wr) s.heap := hP
  have hD : va_D A (moW cI q z hi tx pa ke mr hs wr) := hD
  refine lv_aload_n hx hb dX6_vote_0 rfl (lv_at hl 0 rfl) ?_
  refine lv_aload_n hx hb dX6_vote_1 rfl (lv_at hl 0 rfl) ?_
  refine lv_iload_n hx hb dX6_vote_2 rfl (lv_at hl 1 rfl) ?_
  refine z_callV1 (rest := [.ref (q 0)]) S (c_X6_isMember (n := n) (show n ≤ 8 by omega) (hz) mb) qm_X6_64 v_X6_isMember ⟨Nat.le_of_ble_eq_true rfl, Nat.le_of_ble_eq_true rfl⟩ rfl rfl hN hK hP hD hS hA (0) (mo_0) rfl rfl hl.1 rfl (Nat.le_of_ble_eq_true rfl) dX6_vote_3 ⟨Nat.le_of_ble_eq_true rfl, Nat.le_of_ble_eq_true rfl⟩ (fun H locs hP hD hS => ?_)
  refine lv_if_ne (tgt := 13) hx hb dX6_vote_6 (by decide) (fun c1 => ?_) (fun c1 => ?_)
  · have c1 := bI_1 c1
    obtain ⟨j, hj, rfl⟩ := mem_nat hn c1
    refine lv_aload_n hx hb dX6_vote_13 rfl (lv_at hl 0 rfl) ?_
    refine lv_iload_n hx hb dX6_vote_14 rfl (lv_at hl 1 rfl) ?_
    refine z_callV1 (rest := [.ref (q 0)]) S (c_X6_canVote (hB) hV j (show j < 8 by omega)) qm_X6_117 v_X6_canVote ⟨Nat.le_of_ble_eq_true rfl, Nat.le_of_ble_eq_true rfl⟩ rfl rfl hN hK hP hD hS hA (0) (mo_0) rfl rfl hl.1 rfl (Nat.le_of_ble_eq_true rfl) dX6_vote_15 ⟨Nat.le_of_ble_eq_true rfl, Nat.le_of_ble_eq_true rfl⟩ (fun H locs hP hD hS => ?_)
    refine lv_if_eq (tgt := 25) hx hb dX6_vote_18 (by decide) (fun c2 => ?_) (fun c2 => absurd (bI_f (fun q => q.1 hz2)) c2)
    have c2 := bI_0 c2
    refine lv_iconst (v := 2) hx hb dX6_vote_25 (by decide) ?_
    refine z_put (v := .int 2) (ty := .int) (ws2 := moW cI q z hi tx pa ke (upd mr 2 2) hs wr) hx hb hts inTX6 tyX6 tyX6_ok nmX6 hown hK hP hD hS (0) (mo_0) rfl 5 (by decide) (hts _ qf_X6_25) (fun _ h9 => h9) rfl (by decide +kernel) (rfl) (rfl) (Nat.le_of_ble_eq_true rfl) dX6_vote_26 (mo_w0 _ mfl_s2) (fun H locs hP hD hS => ?_)
    refine lv_aload_n hx hb dX6_vote_29 rfl (lv_at hl 0 rfl) ?_
    refine va_get (v := .int 2) hx hb hts inTX6 hown hK hP (0) (mo_0) rfl 5 (by decide) (hts _ qf_X6_25) (fun _ h9 => h9) (congrArg (fun x => some (Value.int x)) (upd_eq rfl)) dX6_vote_30 ?_
    refine lv_if_le (tgt := 38) hx hb dX6_vote_33 (by decide) (fun c3 => absurd c3 (by decide)) (fun c3 => ?_)
    have c3 := z_lt c3
    refine lv_iconst (v := 0) hx hb dX6_vote_36 (by decide) ?_
    exact z_iret hx hb hr hlocks hP hD hK hS (Eq.symm (xwf_n (K := kVote z n (nI j)) (k := 2) (by first | (simp only [kVote, hz2, mP, sP, inP, cl, alwP, alwM, cvP, c1, nI_clamp (show j < 2 ^ 31 by omega), c2, c3, not_true_eq_false, not_false_eq_true, and_self, and_true, true_and, and_false, false_and, or_true, true_or, or_false, false_or, if_true, if_false, ite_true, ite_false]; done) | (simp [kVote, hz2, mP, sP, inP, cl, alwP, alwM, cvP, c1, nI_clamp (show j < 2 ^ 31 by omega), c2, c3]; done) | (simp_all [kVote, hz2, mP, sP, inP, cl, alwP, alwM, cvP]; done)) (by decide))) (congrArg (fun y_ => some (Value.int y_)) (Eq.symm (xv_n (K := kVote z n (nI j)) (k := 2) (by first | (simp only [kVote, hz2, mP, sP, inP, cl, alwP, alwM, cvP, c1, nI_clamp (show j < 2 ^ 31 by omega), c2, c3, not_true_eq_false, not_false_eq_true, and_self, and_true, true_and, and_false, false_and, or_true, true_or, or_false, false_or, if_true, if_false, ite_true, ite_false]; done) | (simp [kVote, hz2, mP, sP, inP, cl, alwP, alwM, cvP, c1, nI_clamp (show j < 2 ^ 31 by omega), c2, c3]; done) | (simp_all [kVote, hz2, mP, sP, inP, cl, alwP, alwM, cvP]; done)) (by decide)))) dX6_vote_37
  · have c1 := bI_0 c1
    refine lv_iconst (v := 1) hx hb dX6_vote_9 (by decide) ?_
    refine lv_goto (tgt := 26) hx hb dX6_vote_10 (by decide) ?_
    refine z_put (v := .int 1) (ty := .int) (ws2 := moW cI q z hi tx pa ke (upd mr 2 1) hs wr) hx hb hts inTX6 tyX6 tyX6_ok nmX6 hown hK hP hD hS (0) (mo_0) rfl 5 (by decide) (hts _ qf_X6_25) (fun _ h9 => h9) rfl (by decide +kernel) (rfl) (rfl) (Nat.le_of_ble_eq_true rfl) dX6_vote_26 (mo_w0 _ mfl_s2) (fun H locs hP hD hS => ?_)
    refine lv_aload_n hx hb dX6_vote_29 rfl (lv_at hl 0 rfl) ?_
    refine va_get (v := .int 1) hx hb hts inTX6 hown hK hP (0) (mo_0) rfl 5 (by decide) (hts _ qf_X6_25) (fun _ h9 => h9) (congrArg (fun x => some (Value.int x)) (upd_eq rfl)) dX6_vote_30 ?_
    refine lv_if_le (tgt := 38) hx hb dX6_vote_33 (by decide) (fun c4 => absurd c4 (by decide)) (fun c4 => ?_)
    have c4 := z_lt c4
    refine lv_iconst (v := 0) hx hb dX6_vote_36 (by decide) ?_
    exact z_iret hx hb hr hlocks hP hD hK hS (Eq.symm (xwf_n (K := kVote z n mb) (k := 1) (by first | (simp only [kVote, hz2, mP, sP, inP, cl, alwP, alwM, cvP, c1, c4, not_true_eq_false, not_false_eq_true, and_self, and_true, true_and, and_false, false_and, or_true, true_or, or_false, false_or, if_true, if_false, ite_true, ite_false]; done) | (simp [kVote, hz2, mP, sP, inP, cl, alwP, alwM, cvP, c1, c4]; done) | (simp_all [kVote, hz2, mP, sP, inP, cl, alwP, alwM, cvP]; done)) (by decide))) (congrArg (fun y_ => some (Value.int y_)) (Eq.symm (xv_n (K := kVote z n mb) (k := 1) (by first | (simp only [kVote, hz2, mP, sP, inP, cl, alwP, alwM, cvP, c1, c4, not_true_eq_false, not_false_eq_true, and_self, and_true, true_and, and_false, false_and, or_true, true_or, or_false, false_or, if_true, if_false, ite_true, ite_false]; done) | (simp [kVote, hz2, mP, sP, inP, cl, alwP, alwM, cvP, c1, c4]; done) | (simp_all [kVote, hz2, mP, sP, inP, cl, alwP, alwM, cvP]; done)) (by decide)))) dX6_vote_37
set_option maxHeartbeats 4000000 in
set_option maxRecDepth 100000 in
theorem c_X6_takeBack {n : Nat} (hn : n ≤ 8) (hz : z 5 = nI n) {u : Nat} (hu : u ≤ 6) (hm : mr 0 = nI u) (hB : hBool z) : zM l D (zT cI cC cM cB cJ) yX6_takeBack cX6_takeBack 2 (some .int) ({ frames := 1, cells := 0, slots := 0, locals := 22 } : Room) [.ref (q 0)] (moW cI q z hi tx pa ke mr hs wr) (xwf (kTake z) (moW cI q (endZ z) (svH hi z u) tx pa ke (upd (upd mr 2 0) 0 (nI (min (u + 1) 6))) hs wr) (fun k_ => moW cI q z hi tx pa ke (upd mr 2 k_) hs wr)) (some (.int (xv (kTake z) (oneP (z 12 ||| z 13) 8)))) 0 0 := by
  refine z_enter (by decide) (Nat.le_of_ble_eq_true rfl) ?_
  intro p e s m below meth c A S hr hlocks hnm hN hA hK hP hD hS ls hl
  obtain ⟨hx, hb, hml, hown, hts⟩ := id S
  have hl : lv_has ls 2 [(0, .ref (q 0))] := hl
  have hP : va_P D vwCl (moW cI q z hi tx pa ke mr hs wr) s.heap := hP
  have hD : va_D A (moW cI q z hi tx pa ke mr hs wr) := hD
  refine lv_aload_n hx hb dX6_takeBack_0 rfl (lv_at hl 0 rfl) ?_
  refine lv_aload_n hx hb dX6_takeBack_1 rfl (lv_at hl 0 rfl) ?_
  refine va_get (v := .ref (q 1)) hx hb hts inTX6 hown hK hP (0) (mo_0) rfl 0 (by decide) (hts _ qf_X6_7) (fun _ h9 => h9) (rfl) dX6_takeBack_2 ?_
  refine lv_bipush (v := 10) hx hb dX6_takeBack_5 (by decide) ?_
  refine va_iald hx hb hK hP (1) 0 (mo_1) rfl (vp_in_nI (show 10 < 142 by decide) (by omega)) dX6_takeBack_7 ?_
  refine z_top (v2 := .int (z 10)) (congrArg Value.int (((congrArg (zfn z) (z_cl (k := 10) rfl)).trans (zfn_at (by omega))).trans (rfl))) ?_
  refine lv_iconst (v := (-1)) hx hb dX6_takeBack_8 (by decide) ?_
  refine lv_icmp_ne (tgt := 16) hx hb dX6_takeBack_9 (by decide) (fun c1 => ?_) (fun c1 => ?_)
  · skip
    refine lv_iconst (v := 0) hx hb dX6_takeBack_16 (by decide) ?_
    refine z_put (v := .int 0) (ty := .int) (ws2 := moW cI q z hi tx pa ke (upd mr 2 0) hs wr) hx hb hts inTX6 tyX6 tyX6_ok nmX6 hown hK hP hD hS (0) (mo_0) rfl 5 (by decide) (hts _ qf_X6_25) (fun _ h9 => h9) rfl (by decide +kernel) (rfl) (rfl) (Nat.le_of_ble_eq_true rfl) dX6_takeBack_17 (mo_w0 _ mfl_s2) (fun H locs hP hD hS => ?_)
    refine lv_aload_n hx hb dX6_takeBack_20 rfl (lv_at hl 0 rfl) ?_
    refine va_get (v := .int 0) hx hb hts inTX6 hown hK hP (0) (mo_0) rfl 5 (by decide) (hts _ qf_X6_25) (fun _ h9 => h9) (congrArg (fun x => some (Value.int x)) (upd_eq rfl)) dX6_takeBack_21 ?_
    refine lv_if_le (tgt := 29) hx hb dX6_takeBack_24 (by decide) (fun c2 => ?_) (fun c2 => absurd (by decide) c2)
    have c2 := z_nlt c2
    refine lv_aload_n hx hb dX6_takeBack_29 rfl (lv_at hl 0 rfl) ?_
    refine z_callV0 (rest := []) S (c_X6_save (u := u) (by omega) ((upd_ne (by omega)).trans (hm))) qm_X6_58 v_X6_save ⟨Nat.le_of_ble_eq_true rfl, Nat.le_of_ble_eq_true rfl⟩ rfl rfl hN hK hP hD hS hA (0) (mo_0) rfl rfl hl.1 rfl (Nat.le_of_ble_eq_true rfl) dX6_takeBack_30 ⟨Nat.le_of_ble_eq_true rfl, Nat.le_of_ble_eq_true rfl⟩ (fun H locs hP hD hS => ?_)
    refine lv_aload_n hx hb dX6_takeBack_33 rfl (lv_at hl 0 rfl) ?_
    refine va_get (v := .ref (q 1)) hx hb hts inTX6 hown hK hP (0) (mo_0) rfl 0 (by decide) (hts _ qf_X6_7) (fun _ h9 => h9) (rfl) dX6_takeBack_34 ?_
    refine lv_bipush (v := 12) hx hb dX6_takeBack_37 (by decide) ?_
    refine va_iald hx hb hK hP (1) 0 (mo_1) rfl (vp_in_nI (show 12 < 142 by decide) (by omega)) dX6_takeBack_39 ?_
    refine z_top (v2 := .int (z 12)) (congrArg Value.int (((congrArg (zfn z) (z_cl (k := 12) rfl)).trans (zfn_at (by omega))).trans (rfl))) ?_
    refine lv_aload_n hx hb dX6_takeBack_40 rfl (lv_at hl 0 rfl) ?_
    refine va_get (v := .ref (q 1)) hx hb hts inTX6 hown hK hP (0) (mo_0) rfl 0 (by decide) (hts _ qf_X6_7) (fun _ h9 => h9) (rfl) dX6_takeBack_41 ?_
    refine lv_bipush (v := 13) hx hb dX6_takeBack_44 (by decide) ?_
    refine va_iald hx hb hK hP (1) 0 (mo_1) rfl (vp_in_nI (show 13 < 142 by decide) (by omega)) dX6_takeBack_46 ?_
    refine z_top (v2 := .int (z 13)) (congrArg Value.int (((congrArg (zfn z) (z_cl (k := 13) rfl)).trans (zfn_at (by omega))).trans (rfl))) ?_
    refine lv_ior hx hb dX6_takeBack_47  ?_
    refine z_callS1 (rest := []) S (c_X6_ones ((z 12) ||| (z 13))) qm_X6_48 t_X6_ones ⟨Nat.le_of_ble_eq_true rfl, Nat.le_of_ble_eq_true rfl⟩ rfl rfl hN hK hP hD hS hA rfl hl.1 rfl (Nat.le_of_ble_eq_true rfl) dX6_takeBack_48 ⟨Nat.le_of_ble_eq_true rfl, Nat.le_of_ble_eq_true rfl⟩ (fun H locs hP hD hS => ?_)
    refine lv_istore_n (lv' := [(1, .int (oneP ((z 12) ||| (z 13)) 8)), (0, .ref (q 0))]) hx hb dX6_takeBack_51 rfl hl (by decide) rfl (fun ls hl => ?_)
    refine lv_aload_n hx hb dX6_takeBack_52 rfl (lv_at hl 1 rfl) ?_
    refine z_callV0 (rest := []) S (c_X6_endMotion ) qm_X6_55 v_X6_endMotion ⟨Nat.le_of_ble_eq_true rfl, Nat.le_of_ble_eq_true rfl⟩ rfl rfl hN hK hP hD hS hA (0) (mo_0) rfl rfl hl.1 rfl (Nat.le_of_ble_eq_true rfl) dX6_takeBack_53 ⟨Nat.le_of_ble_eq_true rfl, Nat.le_of_ble_eq_true rfl⟩ (fun H locs hP hD hS => ?_)
    refine lv_iload_n hx hb dX6_takeBack_56 rfl (lv_at hl 0 rfl) ?_
    exact z_iret hx hb hr hlocks hP hD hK hS (Eq.symm (xwf_0 (K := kTake z) (by first | (simp only [kTake, mP, sP, inP, cl, alwP, alwM, cvP, c1, c2, not_true_eq_false, not_false_eq_true, and_self, and_true, true_and, and_false, false_and, or_true, true_or, or_false, false_or, if_true, if_false, ite_true, ite_false]; done) | (simp [kTake, mP, sP, inP, cl, alwP, alwM, cvP, c1, c2]; done) | (simp_all [kTake, mP, sP, inP, cl, alwP, alwM, cvP]; done)))) (congrArg (fun y_ => some (Value.int y_)) (Eq.trans (b := oneP (z 12 ||| z 13) 8) (by simp only [cl]) (Eq.symm (xv_0 (K := kTake z) (by first | (simp only [kTake, mP, sP, inP, cl, alwP, alwM, cvP, c1, c2, not_true_eq_false, not_false_eq_true, and_self, and_true, true_and, and_false, false_and, or_true, true_or, or_false, false_or, if_true, if_false, ite_true, ite_false]; done) | (simp [kTake, mP, sP, inP, cl, alwP, alwM, cvP, c1, c2]; done) | (simp_all [kTake, mP, sP, inP, cl, alwP, alwM, cvP]; done)))))) dX6_takeBack_57
  · skip
    refine lv_iconst (v := 1) hx hb dX6_takeBack_12 (by decide) ?_
    refine lv_goto (tgt := 17) hx hb dX6_takeBack_13 (by decide) ?_
    refine z_put (v := .int 1) (ty := .int) (ws2 := moW cI q z hi tx pa ke (upd mr 2 1) hs wr) hx hb hts inTX6 tyX6 tyX6_ok nmX6 hown hK hP hD hS (0) (mo_0) rfl 5 (by decide) (hts _ qf_X6_25) (fun _ h9 => h9) rfl (by decide +kernel) (rfl) (rfl) (Nat.le_of_ble_eq_true rfl) dX6_takeBack_17 (mo_w0 _ mfl_s2) (fun H locs hP hD hS => ?_)
    refine lv_aload_n hx hb dX6_takeBack_20 rfl (lv_at hl 0 rfl) ?_
    refine va_get (v := .int 1) hx hb hts inTX6 hown hK hP (0) (mo_0) rfl 5 (by decide) (hts _ qf_X6_25) (fun _ h9 => h9) (congrArg (fun x => some (Value.int x)) (upd_eq rfl)) dX6_takeBack_21 ?_
    refine lv_if_le (tgt := 29) hx hb dX6_takeBack_24 (by decide) (fun c3 => absurd c3 (by decide)) (fun c3 => ?_)
    have c3 := z_lt c3
    refine lv_iconst (v := 0) hx hb dX6_takeBack_27 (by decide) ?_
    exact z_iret hx hb hr hlocks hP hD hK hS (Eq.symm (xwf_n (K := kTake z) (k := 1) (by first | (simp only [kTake, mP, sP, inP, cl, alwP, alwM, cvP, c1, c3, not_true_eq_false, not_false_eq_true, and_self, and_true, true_and, and_false, false_and, or_true, true_or, or_false, false_or, if_true, if_false, ite_true, ite_false]; done) | (simp [kTake, mP, sP, inP, cl, alwP, alwM, cvP, c1, c3]; done) | (simp_all [kTake, mP, sP, inP, cl, alwP, alwM, cvP]; done)) (by decide))) (congrArg (fun y_ => some (Value.int y_)) (Eq.symm (xv_n (K := kTake z) (k := 1) (by first | (simp only [kTake, mP, sP, inP, cl, alwP, alwM, cvP, c1, c3, not_true_eq_false, not_false_eq_true, and_self, and_true, true_and, and_false, false_and, or_true, true_or, or_false, false_or, if_true, if_false, ite_true, ite_false]; done) | (simp [kTake, mP, sP, inP, cl, alwP, alwM, cvP, c1, c3]; done) | (simp_all [kTake, mP, sP, inP, cl, alwP, alwM, cvP]; done)) (by decide)))) dX6_takeBack_28
set_option maxHeartbeats 4000000 in
set_option maxRecDepth 100000 in
theorem c_X6_append {nb : Nat} (hnb : nb ≤ 60) (h1 : mr 1 = nI nb) (cd : Int32) : zM l D (zT cI cC cM cB cJ) yX6_append cX6_append 2 (some .int) ({ frames := 1, cells := 0, slots := 0, locals := 22 } : Room) [.ref (q 0), .int cd] (moW cI q z hi tx pa ke mr hs wr) (xwf (kAppend nb cd) (moW cI q z hi (upd tx nb cd) pa ke (upd (upd mr 2 0) 1 (nI (nb + 1))) hs wr) (fun k_ => moW cI q z hi tx pa ke (upd mr 2 k_) hs wr)) (some (.int (xv (kAppend nb cd) (nI (nb + 1))))) 0 0 := by
  refine z_enter (by decide) (Nat.le_of_ble_eq_true rfl) ?_
  intro p e s m below meth c A S hr hlocks hnm hN hA hK hP hD hS ls hl
  obtain ⟨hx, hb, hml, hown, hts⟩ := id S
  have hl : lv_has ls 2 [(0, .ref (q 0)), (1, .int cd)] := hl
  have hP : va_P D vwCl (moW cI q z hi tx pa ke mr hs wr) s.heap := hP
  have hD : va_D A (moW cI q z hi tx pa ke mr hs wr) := hD
  refine lv_aload_n hx hb dX6_append_0 rfl (lv_at hl 0 rfl) ?_
  refine lv_iload_n hx hb dX6_append_1 rfl (lv_at hl 1 rfl) ?_
  refine lv_bipush (v := 33) hx hb dX6_append_2 (by decide) ?_
  refine lv_bipush (v := 126) hx hb dX6_append_4 (by decide) ?_
  refine z_callS1 (rest := [.ref (q 0)]) S (c_X6_within cd 33 126) qm_X6_32 t_X6_within ⟨Nat.le_of_ble_eq_true rfl, Nat.le_of_ble_eq_true rfl⟩ rfl rfl hN hK hP hD hS hA rfl hl.1 rfl (Nat.le_of_ble_eq_true rfl) dX6_append_6 ⟨Nat.le_of_ble_eq_true rfl, Nat.le_of_ble_eq_true rfl⟩ (fun H locs hP hD hS => ?_)
  refine lv_if_ne (tgt := 16) hx hb dX6_append_9 (by decide) (fun c1 => ?_) (fun c1 => ?_)
  · have c1 := bI_1 c1
    refine lv_aload_n hx hb dX6_append_16 rfl (lv_at hl 0 rfl) ?_
    refine va_get (v := .int (nI nb)) hx hb hts inTX6 hown hK hP (0) (mo_0) rfl 3 (by decide) (hts _ qf_X6_120) (fun _ h9 => h9) (congrArg (fun x => some (Value.int x)) (h1)) dX6_append_17 ?_
    refine lv_bipush (v := 60) hx hb dX6_append_20 (by decide) ?_
    refine lv_icmp_ne (tgt := 29) hx hb dX6_append_22 (by decide) (fun c2 => ?_) (fun c2 => ?_)
    · skip
      refine lv_iconst (v := 0) hx hb dX6_append_29 (by decide) ?_
      refine z_put (v := .int 0) (ty := .int) (ws2 := moW cI q z hi tx pa ke (upd mr 2 0) hs wr) hx hb hts inTX6 tyX6 tyX6_ok nmX6 hown hK hP hD hS (0) (mo_0) rfl 5 (by decide) (hts _ qf_X6_25) (fun _ h9 => h9) rfl (by decide +kernel) (rfl) (rfl) (Nat.le_of_ble_eq_true rfl) dX6_append_30 (mo_w0 _ mfl_s2) (fun H locs hP hD hS => ?_)
      refine lv_aload_n hx hb dX6_append_33 rfl (lv_at hl 0 rfl) ?_
      refine va_get (v := .int 0) hx hb hts inTX6 hown hK hP (0) (mo_0) rfl 5 (by decide) (hts _ qf_X6_25) (fun _ h9 => h9) (congrArg (fun x => some (Value.int x)) (upd_eq rfl)) dX6_append_34 ?_
      have hnb6 : nb < 60 := lt60_of hnb c2
      refine lv_if_le (tgt := 42) hx hb dX6_append_37 (by decide) (fun c3 => ?_) (fun c3 => absurd (by decide) c3)
      have c3 := z_nlt c3
      refine lv_aload_n hx hb dX6_append_42 rfl (lv_at hl 0 rfl) ?_
      refine va_get (v := .ref (q 3)) hx hb hts inTX6 hown hK hP (0) (mo_0) rfl 4 (by decide) (hts _ qf_X6_16) (fun _ h9 => h9) (rfl) dX6_append_43 ?_
      refine lv_aload_n hx hb dX6_append_46 rfl (lv_at hl 0 rfl) ?_
      refine va_get (v := .int (nI nb)) hx hb hts inTX6 hown hK hP (0) (mo_0) rfl 3 (by decide) (hts _ qf_X6_120) (fun _ h9 => h9) (congrArg (fun x => some (Value.int x)) ((upd_ne (by omega)).trans (h1))) dX6_append_47 ?_
      refine lv_iload_n hx hb dX6_append_50 rfl (lv_at hl 1 rfl) ?_
      refine z_iast (ws2 := moW cI q z hi (upd tx nb cd) pa ke (upd mr 2 0) hs wr) hx hb hK hP hD hS (3) 0 (mo_3) rfl (vp_in_nI (show nb < 60 by omega) (by omega)) dX6_append_51 (mo_wa3 (z_cl (k := nb) rfl)) (fun H locs hP hD hS => ?_)
      refine lv_aload_n hx hb dX6_append_52 rfl (lv_at hl 0 rfl) ?_
      refine lv_dup hx hb dX6_append_53 rfl ?_
      refine va_get (v := .int (nI nb)) hx hb hts inTX6 hown hK hP (0) (mo_0) rfl 3 (by decide) (hts _ qf_X6_120) (fun _ h9 => h9) (congrArg (fun x => some (Value.int x)) ((upd_ne (by omega)).trans (h1))) dX6_append_54 ?_
      refine lv_iconst (v := 1) hx hb dX6_append_57 (by decide) ?_
      refine lv_iadd hx hb dX6_append_58  ?_
      refine z_top (v2 := .int (nI (nb + 1))) (congrArg Value.int (nI_add nb 1)) ?_
      refine z_put (v := .int (nI (nb + 1))) (ty := .int) (ws2 := moW cI q z hi (upd tx nb cd) pa ke (upd (upd mr 2 0) 1 (nI (nb + 1))) hs wr) hx hb hts inTX6 tyX6 tyX6_ok nmX6 hown hK hP hD hS (0) (mo_0) rfl 3 (by decide) (hts _ qf_X6_120) (fun _ h9 => h9) rfl (by decide +kernel) (rfl) (rfl) (Nat.le_of_ble_eq_true rfl) dX6_append_59 (mo_w0 _ mfl_s1) (fun H locs hP hD hS => ?_)
      refine lv_aload_n hx hb dX6_append_62 rfl (lv_at hl 0 rfl) ?_
      refine va_get (v := .int (nI (nb + 1))) hx hb hts inTX6 hown hK hP (0) (mo_0) rfl 3 (by decide) (hts _ qf_X6_120) (fun _ h9 => h9) (congrArg (fun x => some (Value.int x)) (upd_eq rfl)) dX6_append_63 ?_
      exact z_iret hx hb hr hlocks hP hD hK hS (Eq.symm (xwf_0 (K := kAppend nb cd) (by rw [kAppend, if_pos c1, if_pos (show nI nb < 60 from nI_lt (a := nb) (b := 60) (lt60_of hnb c2) (by omega))]))) (congrArg (fun y_ => some (Value.int y_)) (Eq.trans (b := nI (nb + 1)) (rfl) (Eq.symm (xv_0 (K := kAppend nb cd) (by rw [kAppend, if_pos c1, if_pos (show nI nb < 60 from nI_lt (a := nb) (b := 60) (lt60_of hnb c2) (by omega))]))))) dX6_append_66
    · skip
      refine lv_iconst (v := 2) hx hb dX6_append_25 (by decide) ?_
      refine lv_goto (tgt := 30) hx hb dX6_append_26 (by decide) ?_
      refine z_put (v := .int 2) (ty := .int) (ws2 := moW cI q z hi tx pa ke (upd mr 2 2) hs wr) hx hb hts inTX6 tyX6 tyX6_ok nmX6 hown hK hP hD hS (0) (mo_0) rfl 5 (by decide) (hts _ qf_X6_25) (fun _ h9 => h9) rfl (by decide +kernel) (rfl) (rfl) (Nat.le_of_ble_eq_true rfl) dX6_append_30 (mo_w0 _ mfl_s2) (fun H locs hP hD hS => ?_)
      refine lv_aload_n hx hb dX6_append_33 rfl (lv_at hl 0 rfl) ?_
      refine va_get (v := .int 2) hx hb hts inTX6 hown hK hP (0) (mo_0) rfl 5 (by decide) (hts _ qf_X6_25) (fun _ h9 => h9) (congrArg (fun x => some (Value.int x)) (upd_eq rfl)) dX6_append_34 ?_
      refine lv_if_le (tgt := 42) hx hb dX6_append_37 (by decide) (fun c4 => absurd c4 (by decide)) (fun c4 => ?_)
      have c4 := z_lt c4
      refine lv_iconst (v := 0) hx hb dX6_append_40 (by decide) ?_
      exact z_iret hx hb hr hlocks hP hD hK hS (Eq.symm (xwf_n (K := kAppend nb cd) (k := 2) (by rw [kAppend, if_pos c1, if_neg (by rw [c2]; decide)]) (by decide))) (congrArg (fun y_ => some (Value.int y_)) (Eq.symm (xv_n (K := kAppend nb cd) (k := 2) (by rw [kAppend, if_pos c1, if_neg (by rw [c2]; decide)]) (by decide)))) dX6_append_41
  · have c1 := bI_0 c1
    refine lv_iconst (v := 1) hx hb dX6_append_12 (by decide) ?_
    refine lv_goto (tgt := 30) hx hb dX6_append_13 (by decide) ?_
    refine z_put (v := .int 1) (ty := .int) (ws2 := moW cI q z hi tx pa ke (upd mr 2 1) hs wr) hx hb hts inTX6 tyX6 tyX6_ok nmX6 hown hK hP hD hS (0) (mo_0) rfl 5 (by decide) (hts _ qf_X6_25) (fun _ h9 => h9) rfl (by decide +kernel) (rfl) (rfl) (Nat.le_of_ble_eq_true rfl) dX6_append_30 (mo_w0 _ mfl_s2) (fun H locs hP hD hS => ?_)
    refine lv_aload_n hx hb dX6_append_33 rfl (lv_at hl 0 rfl) ?_
    refine va_get (v := .int 1) hx hb hts inTX6 hown hK hP (0) (mo_0) rfl 5 (by decide) (hts _ qf_X6_25) (fun _ h9 => h9) (congrArg (fun x => some (Value.int x)) (upd_eq rfl)) dX6_append_34 ?_
    refine lv_if_le (tgt := 42) hx hb dX6_append_37 (by decide) (fun c5 => absurd c5 (by decide)) (fun c5 => ?_)
    have c5 := z_lt c5
    refine lv_iconst (v := 0) hx hb dX6_append_40 (by decide) ?_
    exact z_iret hx hb hr hlocks hP hD hK hS (Eq.symm (xwf_n (K := kAppend nb cd) (k := 1) (by rw [kAppend, if_neg c1]) (by decide))) (congrArg (fun y_ => some (Value.int y_)) (Eq.symm (xv_n (K := kAppend nb cd) (k := 1) (by rw [kAppend, if_neg c1]) (by decide)))) dX6_append_41
set_option maxHeartbeats 4000000 in
set_option maxRecDepth 100000 in
theorem c_X6_clearBuffer {nb : Nat} (hnb : nb ≤ 60) (h1 : mr 1 = nI nb) : zM l D (zT cI cC cM cB cJ) yX6_clearBuffer cX6_clearBuffer 2 (some .int) ({ frames := 0, cells := 0, slots := 0, locals := 0 } : Room) [.ref (q 0)] (moW cI q z hi tx pa ke mr hs wr) (moW cI q z hi tx pa ke (upd (upd mr 2 0) 1 0) hs wr) (some (.int (nI nb))) 0 0 := by
  refine z_enter (by decide) (Nat.le_of_ble_eq_true rfl) ?_
  intro p e s m below meth c A S hr hlocks hnm hN hA hK hP hD hS ls hl
  obtain ⟨hx, hb, hml, hown, hts⟩ := id S
  have hl : lv_has ls 2 [(0, .ref (q 0))] := hl
  have hP : va_P D vwCl (moW cI q z hi tx pa ke mr hs wr) s.heap := hP
  have hD : va_D A (moW cI q z hi tx pa ke mr hs wr) := hD
  refine lv_aload_n hx hb dX6_clearBuffer_0 rfl (lv_at hl 0 rfl) ?_
  refine lv_iconst (v := 0) hx hb dX6_clearBuffer_1 (by decide) ?_
  refine z_put (v := .int 0) (ty := .int) (ws2 := moW cI q z hi tx pa ke (upd mr 2 0) hs wr) hx hb hts inTX6 tyX6 tyX6_ok nmX6 hown hK hP hD hS (0) (mo_0) rfl 5 (by decide) (hts _ qf_X6_25) (fun _ h9 => h9) rfl (by decide +kernel) (rfl) (rfl) (Nat.le_of_ble_eq_true rfl) dX6_clearBuffer_2 (mo_w0 _ mfl_s2) (fun H locs hP hD hS => ?_)
  refine lv_aload_n hx hb dX6_clearBuffer_5 rfl (lv_at hl 0 rfl) ?_
  refine va_get (v := .int (nI nb)) hx hb hts inTX6 hown hK hP (0) (mo_0) rfl 3 (by decide) (hts _ qf_X6_120) (fun _ h9 => h9) (congrArg (fun x => some (Value.int x)) ((upd_ne (by omega)).trans (h1))) dX6_clearBuffer_6 ?_
  refine lv_istore_n (lv' := [(1, .int (nI nb)), (0, .ref (q 0))]) hx hb dX6_clearBuffer_9 rfl hl (by decide) rfl (fun ls hl => ?_)
  refine lv_aload_n hx hb dX6_clearBuffer_10 rfl (lv_at hl 1 rfl) ?_
  refine lv_iconst (v := 0) hx hb dX6_clearBuffer_11 (by decide) ?_
  refine z_put (v := .int 0) (ty := .int) (ws2 := moW cI q z hi tx pa ke (upd (upd mr 2 0) 1 0) hs wr) hx hb hts inTX6 tyX6 tyX6_ok nmX6 hown hK hP hD hS (0) (mo_0) rfl 3 (by decide) (hts _ qf_X6_120) (fun _ h9 => h9) rfl (by decide +kernel) (rfl) (rfl) (Nat.le_of_ble_eq_true rfl) dX6_clearBuffer_12 (mo_w0 _ mfl_s1) (fun H locs hP hD hS => ?_)
  refine lv_iload_n hx hb dX6_clearBuffer_15 rfl (lv_at hl 0 rfl) ?_
  exact z_iret hx hb hr hlocks hP hD hK hS (rfl) (by first | rfl | (simp only [minP, maxP, not_true_eq_false, not_false_eq_true, and_self, and_true, true_and, and_false, false_and, or_true, true_or, or_false, false_or, if_true, if_false, ite_true, ite_false]; done) | (simp [minP, maxP]; done) | (simp_all [minP, maxP]; done)) dX6_clearBuffer_16
set_option maxHeartbeats 4000000 in
set_option maxRecDepth 100000 in
theorem c_X6_firstError {nb : Nat} (hnb : nb ≤ 60) (h1 : mr 1 = nI nb) : zM l D (zT cI cC cM cB cJ) yX6_firstError cX6_firstError 1 (some .int) ({ frames := 5, cells := 0, slots := 0, locals := 107 } : Room) [.ref (q 0)] (moW cI q z hi tx pa ke mr hs wr) (moW cI q z hi tx ((fmS tx (tM0 pa (upd mr 2 0)) 0 nb).1) ke ((fmS tx (tM0 pa (upd mr 2 0)) 0 nb).2.1) hs wr) (some (.int (nI (fmN tx (tM0 pa (upd mr 2 0)) 0 nb)))) 0 0 := by
  refine z_enter (by decide) (Nat.le_of_ble_eq_true rfl) ?_
  intro p e s m below meth c A S hr hlocks hnm hN hA hK hP hD hS ls hl
  obtain ⟨hx, hb, hml, hown, hts⟩ := id S
  have hl : lv_has ls 1 [(0, .ref (q 0))] := hl
  have hP : va_P D vwCl (moW cI q z hi tx pa ke mr hs wr) s.heap := hP
  have hD : va_D A (moW cI q z hi tx pa ke mr hs wr) := hD
  refine lv_aload_n hx hb dX6_firstError_0 rfl (lv_at hl 0 rfl) ?_
  refine lv_iconst (v := 0) hx hb dX6_firstError_1 (by decide) ?_
  refine z_put (v := .int 0) (ty := .int) (ws2 := moW cI q z hi tx pa ke (upd mr 2 0) hs wr) hx hb hts inTX6 tyX6 tyX6_ok nmX6 hown hK hP hD hS (0) (mo_0) rfl 5 (by decide) (hts _ qf_X6_25) (fun _ h9 => h9) rfl (by decide +kernel) (rfl) (rfl) (Nat.le_of_ble_eq_true rfl) dX6_firstError_2 (mo_w0 _ mfl_s2) (fun H locs hP hD hS => ?_)
  refine lv_aload_n hx hb dX6_firstError_5 rfl (lv_at hl 0 rfl) ?_
  refine z_callV1 (rest := []) S (c_X6_rightUpTo (nb := nb) (by omega) ((upd_ne (by omega)).trans (h1))) qm_X6_141 v_X6_rightUpTo ⟨Nat.le_of_ble_eq_true rfl, Nat.le_of_ble_eq_true rfl⟩ rfl rfl hN hK hP hD hS hA (0) (mo_0) rfl rfl hl.1 rfl (Nat.le_of_ble_eq_true rfl) dX6_firstError_6 ⟨Nat.le_of_ble_eq_true rfl, Nat.le_of_ble_eq_true rfl⟩ (fun H locs hP hD hS => ?_)
  exact z_iret hx hb hr hlocks hP hD hK hS (rfl) (by first | rfl | (simp only [minP, maxP, not_true_eq_false, not_false_eq_true, and_self, and_true, true_and, and_false, false_and, or_true, true_or, or_false, false_or, if_true, if_false, ite_true, ite_false]; done) | (simp [minP, maxP]; done) | (simp_all [minP, maxP]; done)) dX6_firstError_9
set_option maxHeartbeats 4000000 in
set_option maxRecDepth 100000 in
theorem c_X6_undo {u : Nat} (hu : u ≤ 6) (hm : mr 0 = nI u) : zM l D (zT cI cC cM cB cJ) yX6_undo cX6_undo 2 (some .int) ({ frames := 0, cells := 0, slots := 0, locals := 0 } : Room) [.ref (q 0)] (moW cI q z hi tx pa ke mr hs wr) (xwf (kUndoM u) (moW cI q (unR z hi (u - 1) 142) hi tx pa ke (upd (upd mr 2 0) 0 (nI (u - 1))) hs wr) (fun k_ => moW cI q z hi tx pa ke (upd mr 2 k_) hs wr)) (some (.int (xv (kUndoM u) (nI (u - 1))))) 0 0 := by
  refine z_enter (by decide) (Nat.le_of_ble_eq_true rfl) ?_
  intro p e s m below meth c A S hr hlocks hnm hN hA hK hP hD hS ls hl
  obtain ⟨hx, hb, hml, hown, hts⟩ := id S
  have hl : lv_has ls 2 [(0, .ref (q 0))] := hl
  have hP : va_P D vwCl (moW cI q z hi tx pa ke mr hs wr) s.heap := hP
  have hD : va_D A (moW cI q z hi tx pa ke mr hs wr) := hD
  refine lv_aload_n hx hb dX6_undo_0 rfl (lv_at hl 0 rfl) ?_
  refine lv_aload_n hx hb dX6_undo_1 rfl (lv_at hl 0 rfl) ?_
  refine va_get (v := .int (nI u)) hx hb hts inTX6 hown hK hP (0) (mo_0) rfl 1 (by decide) (hts _ qf_X6_29) (fun _ h9 => h9) (congrArg (fun x => some (Value.int x)) (hm)) dX6_undo_2 ?_
  refine lv_if_le (tgt := 12) hx hb dX6_undo_5 (by decide) (fun c1 => ?_) (fun c1 => ?_)
  · have c1 := z_nlt c1
    refine lv_iconst (v := 1) hx hb dX6_undo_12 (by decide) ?_
    refine z_put (v := .int 1) (ty := .int) (ws2 := moW cI q z hi tx pa ke (upd mr 2 1) hs wr) hx hb hts inTX6 tyX6 tyX6_ok nmX6 hown hK hP hD hS (0) (mo_0) rfl 5 (by decide) (hts _ qf_X6_25) (fun _ h9 => h9) rfl (by decide +kernel) (rfl) (rfl) (Nat.le_of_ble_eq_true rfl) dX6_undo_13 (mo_w0 _ mfl_s2) (fun H locs hP hD hS => ?_)
    refine lv_aload_n hx hb dX6_undo_16 rfl (lv_at hl 0 rfl) ?_
    refine va_get (v := .int 1) hx hb hts inTX6 hown hK hP (0) (mo_0) rfl 5 (by decide) (hts _ qf_X6_25) (fun _ h9 => h9) (congrArg (fun x => some (Value.int x)) (upd_eq rfl)) dX6_undo_17 ?_
    refine lv_if_le (tgt := 25) hx hb dX6_undo_20 (by decide) (fun c2 => absurd c2 (by decide)) (fun c2 => ?_)
    have c2 := z_lt c2
    refine lv_iconst (v := 0) hx hb dX6_undo_23 (by decide) ?_
    exact z_iret hx hb hr hlocks hP hD hK hS (Eq.symm (xwf_n (K := kUndoM u) (k := 1) (by first | (simp only [kUndoM, mP, sP, inP, cl, alwP, alwM, cvP, c1, c2, not_true_eq_false, not_false_eq_true, and_self, and_true, true_and, and_false, false_and, or_true, true_or, or_false, false_or, if_true, if_false, ite_true, ite_false]; done) | (simp [kUndoM, mP, sP, inP, cl, alwP, alwM, cvP, c1, c2]; done) | (simp_all [kUndoM, mP, sP, inP, cl, alwP, alwM, cvP]; done)) (by decide))) (congrArg (fun y_ => some (Value.int y_)) (Eq.symm (xv_n (K := kUndoM u) (k := 1) (by first | (simp only [kUndoM, mP, sP, inP, cl, alwP, alwM, cvP, c1, c2, not_true_eq_false, not_false_eq_true, and_self, and_true, true_and, and_false, false_and, or_true, true_or, or_false, false_or, if_true, if_false, ite_true, ite_false]; done) | (simp [kUndoM, mP, sP, inP, cl, alwP, alwM, cvP, c1, c2]; done) | (simp_all [kUndoM, mP, sP, inP, cl, alwP, alwM, cvP]; done)) (by decide)))) dX6_undo_24
  · have c1 := z_lt c1
    refine lv_iconst (v := 0) hx hb dX6_undo_8 (by decide) ?_
    refine lv_goto (tgt := 13) hx hb dX6_undo_9 (by decide) ?_
    refine z_put (v := .int 0) (ty := .int) (ws2 := moW cI q z hi tx pa ke (upd mr 2 0) hs wr) hx hb hts inTX6 tyX6 tyX6_ok nmX6 hown hK hP hD hS (0) (mo_0) rfl 5 (by decide) (hts _ qf_X6_25) (fun _ h9 => h9) rfl (by decide +kernel) (rfl) (rfl) (Nat.le_of_ble_eq_true rfl) dX6_undo_13 (mo_w0 _ mfl_s2) (fun H locs hP hD hS => ?_)
    refine lv_aload_n hx hb dX6_undo_16 rfl (lv_at hl 0 rfl) ?_
    refine va_get (v := .int 0) hx hb hts inTX6 hown hK hP (0) (mo_0) rfl 5 (by decide) (hts _ qf_X6_25) (fun _ h9 => h9) (congrArg (fun x => some (Value.int x)) (upd_eq rfl)) dX6_undo_17 ?_
    have hu0 : 0 < u := (nI_ltI (a := 0) (b := u) (by omega) (by omega)).mp c1
    refine lv_if_le (tgt := 25) hx hb dX6_undo_20 (by decide) (fun c3 => ?_) (fun c3 => absurd (by decide) c3)
    have c3 := z_nlt c3
    refine lv_aload_n hx hb dX6_undo_25 rfl (lv_at hl 0 rfl) ?_
    refine lv_dup hx hb dX6_undo_26 rfl ?_
    refine va_get (v := .int (nI u)) hx hb hts inTX6 hown hK hP (0) (mo_0) rfl 1 (by decide) (hts _ qf_X6_29) (fun _ h9 => h9) (congrArg (fun x => some (Value.int x)) ((upd_ne (by omega)).trans (hm))) dX6_undo_27 ?_
    refine lv_iconst (v := 1) hx hb dX6_undo_30 (by decide) ?_
    refine lv_isub hx hb dX6_undo_31  ?_
    refine z_top (v2 := .int (nI (u - 1))) (congrArg Value.int (pk_sub (a := u) (b := 1) (by omega))) ?_
    refine z_put (v := .int (nI (u - 1))) (ty := .int) (ws2 := moW cI q z hi tx pa ke (upd (upd mr 2 0) 0 (nI (u - 1))) hs wr) hx hb hts inTX6 tyX6 tyX6_ok nmX6 hown hK hP hD hS (0) (mo_0) rfl 1 (by decide) (hts _ qf_X6_29) (fun _ h9 => h9) rfl (by decide +kernel) (rfl) (rfl) (Nat.le_of_ble_eq_true rfl) dX6_undo_32 (mo_w0 _ mfl_s0) (fun H locs hP hD hS => ?_)
    refine lv_iconst (v := 0) hx hb dX6_undo_35 (by decide) ?_
    refine lv_istore_n (lv' := [(1, .int 0), (0, .ref (q 0))]) hx hb dX6_undo_36 rfl hl (by decide) rfl (fun ls hl => ?_)
    have K37 : ∀ (n37 i : Nat), i + n37 = 142 → ∀ (H : Heap) (locs : List Loc), va_P D vwCl (moW cI q (unR z hi (u - 1) i) hi tx pa ke (upd (upd mr 2 0) 0 (nI (u - 1))) hs wr) H → va_D A (moW cI q (unR z hi (u - 1) i) hi tx pa ke (upd (upd mr 2 0) 0 (nI (u - 1))) hs wr) → va_S A s.heap H locs → ∀ ls : Array Slot, lv_has ls 2 [(0, .ref (q 0)), (1, .int (nI i))] → W p l e ({ frames := 0, cells := 0, slots := 0, locals := 0 } : Room) s m ([.ref (q 0)] : List Value).toArray below meth c H locs 0 0 (MQ below (zQ D (zT cI cC cM cB cJ) (xwf (kUndoM u) (moW cI q (unR z hi (u - 1) 142) hi tx pa ke (upd (upd mr 2 0) 0 (nI (u - 1))) hs wr) (fun k_ => moW cI q z hi tx pa ke (upd mr 2 k_) hs wr)) (some (.int (xv (kUndoM u) (nI (u - 1))))) A) ([.ref (q 0)] : List Value).toArray s 0 0 A) (F0 m 37 ls []) := by
      intro n37
      induction n37 with
      | zero =>
        intro i h_i H locs hP hD hS ls hl
        have ei : 142 = i := by omega
        subst ei
        refine lv_iload_n hx hb dX6_undo_37 rfl (lv_at hl 1 rfl) ?_
        refine lv_sipush (v := 142) hx hb dX6_undo_38 (by decide) ?_
        refine lv_icmp_ge (tgt := 71) hx hb dX6_undo_41 (by decide) (fun c4 => ?_) (fun c4 => absurd (nI_le (a := 142) (b := 142) (by omega) (by omega)) c4)
        have c4 := z_nlt c4
        refine lv_aload_n hx hb dX6_undo_71 rfl (lv_at hl 0 rfl) ?_
        refine va_get (v := .int (nI (u - 1))) hx hb hts inTX6 hown hK hP (0) (mo_0) rfl 1 (by decide) (hts _ qf_X6_29) (fun _ h9 => h9) (congrArg (fun x => some (Value.int x)) (upd_eq rfl)) dX6_undo_72 ?_
        exact z_iret hx hb hr hlocks hP hD hK hS (Eq.symm (xwf_0 (K := kUndoM u) (by first | (simp only [kUndoM, mP, sP, inP, cl, alwP, alwM, cvP, c1, c3, c4, not_true_eq_false, not_false_eq_true, and_self, and_true, true_and, and_false, false_and, or_true, true_or, or_false, false_or, if_true, if_false, ite_true, ite_false]; done) | (simp [kUndoM, mP, sP, inP, cl, alwP, alwM, cvP, c1, c3, c4]; done) | (simp_all [kUndoM, mP, sP, inP, cl, alwP, alwM, cvP]; done)))) (congrArg (fun y_ => some (Value.int y_)) (Eq.trans (b := nI (u - 1)) (rfl) (Eq.symm (xv_0 (K := kUndoM u) (by first | (simp only [kUndoM, mP, sP, inP, cl, alwP, alwM, cvP, c1, c3, c4, not_true_eq_false, not_false_eq_true, and_self, and_true, true_and, and_false, false_and, or_true, true_or, or_false, false_or, if_true, if_false, ite_true, ite_false]; done) | (simp [kUndoM, mP, sP, inP, cl, alwP, alwM, cvP, c1, c3, c4]; done) | (simp_all [kUndoM, mP, sP, inP, cl, alwP, alwM, cvP]; done)))))) dX6_undo_75
      | succ n37 ih37 =>
        intro i h_i H locs hP hD hS ls hl
        have li : i < 142 := by omega
        refine lv_iload_n hx hb dX6_undo_37 rfl (lv_at hl 1 rfl) ?_
        refine lv_sipush (v := 142) hx hb dX6_undo_38 (by decide) ?_
        refine lv_icmp_ge (tgt := 71) hx hb dX6_undo_41 (by decide) (fun c5 => absurd c5 (nI_ge (a := i) (b := 142) (by omega) (by omega))) (fun c5 => ?_)
        have c5 := z_lt c5
        refine lv_aload_n hx hb dX6_undo_44 rfl (lv_at hl 0 rfl) ?_
        refine va_get (v := .ref (q 1)) hx hb hts inTX6 hown hK hP (0) (mo_0) rfl 0 (by decide) (hts _ qf_X6_7) (fun _ h9 => h9) (rfl) dX6_undo_45 ?_
        refine lv_iload_n hx hb dX6_undo_48 rfl (lv_at hl 1 rfl) ?_
        refine lv_aload_n hx hb dX6_undo_49 rfl (lv_at hl 0 rfl) ?_
        refine va_get (v := .ref (q 2)) hx hb hts inTX6 hown hK hP (0) (mo_0) rfl 2 (by decide) (hts _ qf_X6_13) (fun _ h9 => h9) (rfl) dX6_undo_50 ?_
        refine lv_sipush (v := 142) hx hb dX6_undo_53 (by decide) ?_
        refine lv_aload_n hx hb dX6_undo_56 rfl (lv_at hl 0 rfl) ?_
        refine va_get (v := .int (nI (u - 1))) hx hb hts inTX6 hown hK hP (0) (mo_0) rfl 1 (by decide) (hts _ qf_X6_29) (fun _ h9 => h9) (congrArg (fun x => some (Value.int x)) (upd_eq rfl)) dX6_undo_57 ?_
        refine lv_imul hx hb dX6_undo_60  ?_
        refine z_top (v2 := .int (nI (142 * (u - 1)))) (congrArg Value.int (pk_mul 142 (u - 1))) ?_
        refine lv_iload_n hx hb dX6_undo_61 rfl (lv_at hl 1 rfl) ?_
        refine lv_iadd hx hb dX6_undo_62  ?_
        refine z_top (v2 := .int (nI ((142 * (u - 1)) + i))) (congrArg Value.int (nI_add (142 * (u - 1)) i)) ?_
        refine va_iald hx hb hK hP (2) 0 (mo_2) rfl (vp_in_nI (show (142 * (u - 1)) + i < 852 by omega) (by omega)) dX6_undo_63 ?_
        refine z_top (v2 := .int (hi ((142 * (u - 1)) + i))) (congrArg Value.int (congrArg hi (z_cl (k := ((142 * (u - 1)) + i)) rfl))) ?_
        refine z_iast (ws2 := moW cI q (upd (unR z hi (u - 1) i) i (hi ((142 * (u - 1)) + i))) hi tx pa ke (upd (upd mr 2 0) 0 (nI (u - 1))) hs wr) hx hb hK hP hD hS (1) 0 (mo_1) rfl (vp_in_nI (show i < 142 by omega) (by omega)) dX6_undo_64 (mo_w1 (z_cl (k := i) rfl) (by omega)) (fun H locs hP hD hS => ?_)
        refine lv_iinc (v := nI (i + 1)) (lv' := [(1, .int (nI (i + 1))), (0, .ref (q 0))]) hx hb dX6_undo_65 hl (k := 1) rfl (nI_1 _) (by decide) rfl (fun ls hl => ?_)
        refine lv_goto (tgt := 37) hx hb dX6_undo_68 (by decide) ?_
        have hP := va_P_eq (w2 := moW cI q (unR z hi (u - 1) (i + 1)) hi tx pa ke (upd (upd mr 2 0) 0 (nI (u - 1))) hs wr) (congrArg (fun z_ => moW cI q z_ hi tx pa ke (upd (upd mr 2 0) 0 (nI (u - 1))) hs wr) (unR_s)) hP
        have hD := va_D_eq (w2 := moW cI q (unR z hi (u - 1) (i + 1)) hi tx pa ke (upd (upd mr 2 0) 0 (nI (u - 1))) hs wr) (congrArg (fun z_ => moW cI q z_ hi tx pa ke (upd (upd mr 2 0) 0 (nI (u - 1))) hs wr) (unR_s)) hD
        exact ih37 (i + 1) (by omega) _ _ hP hD hS ls (lv_sub hl [1, 0] rfl)
    have hl := (congrArg (fun qv_ => lv_has ls 2 [(1, qv_), (0, .ref (q 0))]) (show Value.int 0 = .int (nI 0) from congrArg Value.int (rfl))).mp hl
    have hP := va_P_eq (w2 := moW cI q (unR z hi (u - 1) 0) hi tx pa ke (upd (upd mr 2 0) 0 (nI (u - 1))) hs wr) (congrArg (fun z_ => moW cI q z_ hi tx pa ke (upd (upd mr 2 0) 0 (nI (u - 1))) hs wr) (unR_0.symm)) hP
    have hD := va_D_eq (w2 := moW cI q (unR z hi (u - 1) 0) hi tx pa ke (upd (upd mr 2 0) 0 (nI (u - 1))) hs wr) (congrArg (fun z_ => moW cI q z_ hi tx pa ke (upd (upd mr 2 0) 0 (nI (u - 1))) hs wr) (unR_0.symm)) hD
    exact K37 142 0 (by omega) _ _ hP hD hS ls (lv_sub hl [1, 0] rfl)
set_option maxHeartbeats 4000000 in
set_option maxRecDepth 100000 in
theorem c_X6_member {n : Nat} (hn : n ≤ 8) (hz : z 5 = nI n) (hB : hBool z) (hV : hVote z) (mb xx : Int32) : zM l D (zT cI cC cM cB cJ) yX6_member cX6_member 3 (some .int) ({ frames := 4, cells := 0, slots := 0, locals := 86 } : Room) [.ref (q 0), .int mb, .int xx] (moW cI q z hi tx pa ke mr hs wr) (xwf (kMember n mb xx) (moW cI q z hi tx pa ke (upd mr 2 0) hs wr) (fun k_ => moW cI q z hi tx pa ke (upd mr 2 k_) hs wr)) (some (.int (xv (kMember n mb xx) (prpP z (cl mb) xx)))) 0 0 := by
  refine z_enter (by decide) (Nat.le_of_ble_eq_true rfl) ?_
  intro p e s m below meth c A S hr hlocks hnm hN hA hK hP hD hS ls hl
  obtain ⟨hx, hb, hml, hown, hts⟩ := id S
  have hl : lv_has ls 3 [(0, .ref (q 0)), (1, .int mb), (2, .int xx)] := hl
  have hP : va_P D vwCl (moW cI q z hi tx pa ke mr hs wr) s.heap := hP
  have hD : va_D A (moW cI q z hi tx pa ke mr hs wr) := hD
  refine lv_aload_n hx hb dX6_member_0 rfl (lv_at hl 0 rfl) ?_
  refine lv_aload_n hx hb dX6_member_1 rfl (lv_at hl 0 rfl) ?_
  refine lv_iload_n hx hb dX6_member_2 rfl (lv_at hl 1 rfl) ?_
  refine z_callV1 (rest := [.ref (q 0)]) S (c_X6_isMember (n := n) (show n ≤ 8 by omega) (hz) mb) qm_X6_64 v_X6_isMember ⟨Nat.le_of_ble_eq_true rfl, Nat.le_of_ble_eq_true rfl⟩ rfl rfl hN hK hP hD hS hA (0) (mo_0) rfl rfl hl.1 rfl (Nat.le_of_ble_eq_true rfl) dX6_member_3 ⟨Nat.le_of_ble_eq_true rfl, Nat.le_of_ble_eq_true rfl⟩ (fun H locs hP hD hS => ?_)
  refine lv_if_ne (tgt := 13) hx hb dX6_member_6 (by decide) (fun c1 => ?_) (fun c1 => ?_)
  · have c1 := bI_1 c1
    obtain ⟨j, hj, rfl⟩ := mem_nat hn c1
    refine lv_iload_n hx hb dX6_member_13 rfl (lv_at hl 2 rfl) ?_
    refine lv_iconst (v := 0) hx hb dX6_member_14 (by decide) ?_
    refine lv_bipush (v := 11) hx hb dX6_member_15 (by decide) ?_
    refine z_callS1 (rest := [.ref (q 0)]) S (c_X6_within xx 0 11) qm_X6_32 t_X6_within ⟨Nat.le_of_ble_eq_true rfl, Nat.le_of_ble_eq_true rfl⟩ rfl rfl hN hK hP hD hS hA rfl hl.1 rfl (Nat.le_of_ble_eq_true rfl) dX6_member_17 ⟨Nat.le_of_ble_eq_true rfl, Nat.le_of_ble_eq_true rfl⟩ (fun H locs hP hD hS => ?_)
    refine lv_if_eq (tgt := 27) hx hb dX6_member_20 (by decide) (fun c2 => ?_) (fun c2 => ?_)
    · have c2 := bI_0 c2
      refine lv_iconst (v := 2) hx hb dX6_member_27 (by decide) ?_
      refine z_put (v := .int 2) (ty := .int) (ws2 := moW cI q z hi tx pa ke (upd mr 2 2) hs wr) hx hb hts inTX6 tyX6 tyX6_ok nmX6 hown hK hP hD hS (0) (mo_0) rfl 5 (by decide) (hts _ qf_X6_25) (fun _ h9 => h9) rfl (by decide +kernel) (rfl) (rfl) (Nat.le_of_ble_eq_true rfl) dX6_member_28 (mo_w0 _ mfl_s2) (fun H locs hP hD hS => ?_)
      refine lv_aload_n hx hb dX6_member_31 rfl (lv_at hl 0 rfl) ?_
      refine va_get (v := .int 2) hx hb hts inTX6 hown hK hP (0) (mo_0) rfl 5 (by decide) (hts _ qf_X6_25) (fun _ h9 => h9) (congrArg (fun x => some (Value.int x)) (upd_eq rfl)) dX6_member_32 ?_
      refine lv_if_le (tgt := 42) hx hb dX6_member_35 (by decide) (fun c3 => absurd c3 (by decide)) (fun c3 => ?_)
      have c3 := z_lt c3
      refine lv_iconst (v := 0) hx hb dX6_member_38 (by decide) ?_
      refine lv_goto (tgt := 48) hx hb dX6_member_39 (by decide) ?_
      exact z_iret hx hb hr hlocks hP hD hK hS (Eq.symm (xwf_n (K := kMember n (nI j) xx) (k := 2) (by first | (simp only [kMember, mP, sP, inP, cl, alwP, alwM, cvP, c1, nI_clamp (show j < 2 ^ 31 by omega), c2, c3, not_true_eq_false, not_false_eq_true, and_self, and_true, true_and, and_false, false_and, or_true, true_or, or_false, false_or, if_true, if_false, ite_true, ite_false]; done) | (simp [kMember, mP, sP, inP, cl, alwP, alwM, cvP, c1, nI_clamp (show j < 2 ^ 31 by omega), c2, c3]; done) | (simp_all [kMember, mP, sP, inP, cl, alwP, alwM, cvP]; done)) (by decide))) (congrArg (fun y_ => some (Value.int y_)) (Eq.symm (xv_n (K := kMember n (nI j) xx) (k := 2) (by first | (simp only [kMember, mP, sP, inP, cl, alwP, alwM, cvP, c1, nI_clamp (show j < 2 ^ 31 by omega), c2, c3, not_true_eq_false, not_false_eq_true, and_self, and_true, true_and, and_false, false_and, or_true, true_or, or_false, false_or, if_true, if_false, ite_true, ite_false]; done) | (simp [kMember, mP, sP, inP, cl, alwP, alwM, cvP, c1, nI_clamp (show j < 2 ^ 31 by omega), c2, c3]; done) | (simp_all [kMember, mP, sP, inP, cl, alwP, alwM, cvP]; done)) (by decide)))) dX6_member_48
    · have c2 := bI_1 c2
      obtain ⟨w_, hw_, rfl⟩ := w11_nat c2
      refine lv_iconst (v := 0) hx hb dX6_member_23 (by decide) ?_
      refine lv_goto (tgt := 28) hx hb dX6_member_24 (by decide) ?_
      refine z_put (v := .int 0) (ty := .int) (ws2 := moW cI q z hi tx pa ke (upd mr 2 0) hs wr) hx hb hts inTX6 tyX6 tyX6_ok nmX6 hown hK hP hD hS (0) (mo_0) rfl 5 (by decide) (hts _ qf_X6_25) (fun _ h9 => h9) rfl (by decide +kernel) (rfl) (rfl) (Nat.le_of_ble_eq_true rfl) dX6_member_28 (mo_w0 _ mfl_s2) (fun H locs hP hD hS => ?_)
      refine lv_aload_n hx hb dX6_member_31 rfl (lv_at hl 0 rfl) ?_
      refine va_get (v := .int 0) hx hb hts inTX6 hown hK hP (0) (mo_0) rfl 5 (by decide) (hts _ qf_X6_25) (fun _ h9 => h9) (congrArg (fun x => some (Value.int x)) (upd_eq rfl)) dX6_member_32 ?_
      refine lv_if_le (tgt := 42) hx hb dX6_member_35 (by decide) (fun c4 => ?_) (fun c4 => absurd (by decide) c4)
      have c4 := z_nlt c4
      refine lv_aload_n hx hb dX6_member_42 rfl (lv_at hl 0 rfl) ?_
      refine lv_iload_n hx hb dX6_member_43 rfl (lv_at hl 1 rfl) ?_
      refine lv_iload_n hx hb dX6_member_44 rfl (lv_at hl 2 rfl) ?_
      refine z_callV1 (rest := []) S (c_X6_memberNow (hB) hV j w_ (show j < 8 by omega) (show w_ < 12 by omega)) qm_X6_147 v_X6_memberNow ⟨Nat.le_of_ble_eq_true rfl, Nat.le_of_ble_eq_true rfl⟩ rfl rfl hN hK hP hD hS hA (0) (mo_0) rfl rfl hl.1 rfl (Nat.le_of_ble_eq_true rfl) dX6_member_45 ⟨Nat.le_of_ble_eq_true rfl, Nat.le_of_ble_eq_true rfl⟩ (fun H locs hP hD hS => ?_)
      exact z_iret hx hb hr hlocks hP hD hK hS (Eq.symm (xwf_0 (K := kMember n (nI j) (nI w_)) (by first | (simp only [kMember, mP, sP, inP, cl, alwP, alwM, cvP, c1, nI_clamp (show j < 2 ^ 31 by omega), c2, nI_clamp (show w_ < 2 ^ 31 by omega), c4, not_true_eq_false, not_false_eq_true, and_self, and_true, true_and, and_false, false_and, or_true, true_or, or_false, false_or, if_true, if_false, ite_true, ite_false]; done) | (simp [kMember, mP, sP, inP, cl, alwP, alwM, cvP, c1, nI_clamp (show j < 2 ^ 31 by omega), c2, nI_clamp (show w_ < 2 ^ 31 by omega), c4]; done) | (simp_all [kMember, mP, sP, inP, cl, alwP, alwM, cvP]; done)))) (congrArg (fun y_ => some (Value.int y_)) (Eq.trans (b := prpP z (cl (nI j)) (nI w_)) (by simp only [cl, nI_clamp (show j < 2 ^ 31 by omega), nI_clamp (show w_ < 2 ^ 31 by omega)]) (Eq.symm (xv_0 (K := kMember n (nI j) (nI w_)) (by first | (simp only [kMember, mP, sP, inP, cl, alwP, alwM, cvP, c1, nI_clamp (show j < 2 ^ 31 by omega), c2, nI_clamp (show w_ < 2 ^ 31 by omega), c4, not_true_eq_false, not_false_eq_true, and_self, and_true, true_and, and_false, false_and, or_true, true_or, or_false, false_or, if_true, if_false, ite_true, ite_false]; done) | (simp [kMember, mP, sP, inP, cl, alwP, alwM, cvP, c1, nI_clamp (show j < 2 ^ 31 by omega), c2, nI_clamp (show w_ < 2 ^ 31 by omega), c4]; done) | (simp_all [kMember, mP, sP, inP, cl, alwP, alwM, cvP]; done)))))) dX6_member_48
  · have c1 := bI_0 c1
    refine lv_iconst (v := 1) hx hb dX6_member_9 (by decide) ?_
    refine lv_goto (tgt := 28) hx hb dX6_member_10 (by decide) ?_
    refine z_put (v := .int 1) (ty := .int) (ws2 := moW cI q z hi tx pa ke (upd mr 2 1) hs wr) hx hb hts inTX6 tyX6 tyX6_ok nmX6 hown hK hP hD hS (0) (mo_0) rfl 5 (by decide) (hts _ qf_X6_25) (fun _ h9 => h9) rfl (by decide +kernel) (rfl) (rfl) (Nat.le_of_ble_eq_true rfl) dX6_member_28 (mo_w0 _ mfl_s2) (fun H locs hP hD hS => ?_)
    refine lv_aload_n hx hb dX6_member_31 rfl (lv_at hl 0 rfl) ?_
    refine va_get (v := .int 1) hx hb hts inTX6 hown hK hP (0) (mo_0) rfl 5 (by decide) (hts _ qf_X6_25) (fun _ h9 => h9) (congrArg (fun x => some (Value.int x)) (upd_eq rfl)) dX6_member_32 ?_
    refine lv_if_le (tgt := 42) hx hb dX6_member_35 (by decide) (fun c5 => absurd c5 (by decide)) (fun c5 => ?_)
    have c5 := z_lt c5
    refine lv_iconst (v := 0) hx hb dX6_member_38 (by decide) ?_
    refine lv_goto (tgt := 48) hx hb dX6_member_39 (by decide) ?_
    exact z_iret hx hb hr hlocks hP hD hK hS (Eq.symm (xwf_n (K := kMember n mb xx) (k := 1) (by first | (simp only [kMember, mP, sP, inP, cl, alwP, alwM, cvP, c1, c5, not_true_eq_false, not_false_eq_true, and_self, and_true, true_and, and_false, false_and, or_true, true_or, or_false, false_or, if_true, if_false, ite_true, ite_false]; done) | (simp [kMember, mP, sP, inP, cl, alwP, alwM, cvP, c1, c5]; done) | (simp_all [kMember, mP, sP, inP, cl, alwP, alwM, cvP]; done)) (by decide))) (congrArg (fun y_ => some (Value.int y_)) (Eq.symm (xv_n (K := kMember n mb xx) (k := 1) (by first | (simp only [kMember, mP, sP, inP, cl, alwP, alwM, cvP, c1, c5, not_true_eq_false, not_false_eq_true, and_self, and_true, true_and, and_false, false_and, or_true, true_or, or_false, false_or, if_true, if_false, ite_true, ite_false]; done) | (simp [kMember, mP, sP, inP, cl, alwP, alwM, cvP, c1, c5]; done) | (simp_all [kMember, mP, sP, inP, cl, alwP, alwM, cvP]; done)) (by decide)))) dX6_member_48
set_option maxHeartbeats 4000000 in
set_option maxRecDepth 100000 in
theorem c_X6_skill {n : Nat} (hn : n ≤ 8) (hz : z 5 = nI n) (hB : hBool z) (mb sk xx : Int32) : zM l D (zT cI cC cM cB cJ) yX6_skill cX6_skill 4 (some .int) ({ frames := 3, cells := 0, slots := 0, locals := 68 } : Room) [.ref (q 0), .int mb, .int sk, .int xx] (moW cI q z hi tx pa ke mr hs wr) (xwf (kSkill n mb sk xx) (moW cI q z hi tx pa ke (upd mr 2 0) hs wr) (fun k_ => moW cI q z hi tx pa ke (upd mr 2 k_) hs wr)) (some (.int (xv (kSkill n mb sk xx) (if xx = 0 then z (25 + 16 * cl mb + cl sk) else ripeP (z (25 + 16 * cl mb + cl sk)))))) 0 0 := by
  refine z_enter (by decide) (Nat.le_of_ble_eq_true rfl) ?_
  intro p e s m below meth c A S hr hlocks hnm hN hA hK hP hD hS ls hl
  obtain ⟨hx, hb, hml, hown, hts⟩ := id S
  have hl : lv_has ls 4 [(0, .ref (q 0)), (1, .int mb), (2, .int sk), (3, .int xx)] := hl
  have hP : va_P D vwCl (moW cI q z hi tx pa ke mr hs wr) s.heap := hP
  have hD : va_D A (moW cI q z hi tx pa ke mr hs wr) := hD
  refine lv_aload_n hx hb dX6_skill_0 rfl (lv_at hl 0 rfl) ?_
  refine lv_aload_n hx hb dX6_skill_1 rfl (lv_at hl 0 rfl) ?_
  refine lv_iload_n hx hb dX6_skill_2 rfl (lv_at hl 1 rfl) ?_
  refine z_callV1 (rest := [.ref (q 0)]) S (c_X6_isMember (n := n) (show n ≤ 8 by omega) (hz) mb) qm_X6_64 v_X6_isMember ⟨Nat.le_of_ble_eq_true rfl, Nat.le_of_ble_eq_true rfl⟩ rfl rfl hN hK hP hD hS hA (0) (mo_0) rfl rfl hl.1 rfl (Nat.le_of_ble_eq_true rfl) dX6_skill_3 ⟨Nat.le_of_ble_eq_true rfl, Nat.le_of_ble_eq_true rfl⟩ (fun H locs hP hD hS => ?_)
  refine lv_if_eq (tgt := 16) hx hb dX6_skill_6 (by decide) (fun c1 => ?_) (fun c1 => ?_)
  · have c1 := bI_0 c1
    refine lv_iconst (v := 1) hx hb dX6_skill_16 (by decide) ?_
    refine lv_goto (tgt := 34) hx hb dX6_skill_17 (by decide) ?_
    refine z_put (v := .int 1) (ty := .int) (ws2 := moW cI q z hi tx pa ke (upd mr 2 1) hs wr) hx hb hts inTX6 tyX6 tyX6_ok nmX6 hown hK hP hD hS (0) (mo_0) rfl 5 (by decide) (hts _ qf_X6_25) (fun _ h9 => h9) rfl (by decide +kernel) (rfl) (rfl) (Nat.le_of_ble_eq_true rfl) dX6_skill_34 (mo_w0 _ mfl_s2) (fun H locs hP hD hS => ?_)
    refine lv_aload_n hx hb dX6_skill_37 rfl (lv_at hl 0 rfl) ?_
    refine va_get (v := .int 1) hx hb hts inTX6 hown hK hP (0) (mo_0) rfl 5 (by decide) (hts _ qf_X6_25) (fun _ h9 => h9) (congrArg (fun x => some (Value.int x)) (upd_eq rfl)) dX6_skill_38 ?_
    refine lv_if_le (tgt := 48) hx hb dX6_skill_41 (by decide) (fun c2 => absurd c2 (by decide)) (fun c2 => ?_)
    have c2 := z_lt c2
    refine lv_iconst (v := 0) hx hb dX6_skill_44 (by decide) ?_
    refine lv_goto (tgt := 55) hx hb dX6_skill_45 (by decide) ?_
    exact z_iret hx hb hr hlocks hP hD hK hS (Eq.symm (xwf_n (K := kSkill n mb sk xx) (k := 1) (by first | (simp only [kSkill, mP, sP, inP, cl, alwP, alwM, cvP, c1, c2, not_true_eq_false, not_false_eq_true, and_self, and_true, true_and, and_false, false_and, or_true, true_or, or_false, false_or, if_true, if_false, ite_true, ite_false]; done) | (simp [kSkill, mP, sP, inP, cl, alwP, alwM, cvP, c1, c2]; done) | (simp_all [kSkill, mP, sP, inP, cl, alwP, alwM, cvP]; done)) (by decide))) (congrArg (fun y_ => some (Value.int y_)) (Eq.symm (xv_n (K := kSkill n mb sk xx) (k := 1) (by first | (simp only [kSkill, mP, sP, inP, cl, alwP, alwM, cvP, c1, c2, not_true_eq_false, not_false_eq_true, and_self, and_true, true_and, and_false, false_and, or_true, true_or, or_false, false_or, if_true, if_false, ite_true, ite_false]; done) | (simp [kSkill, mP, sP, inP, cl, alwP, alwM, cvP, c1, c2]; done) | (simp_all [kSkill, mP, sP, inP, cl, alwP, alwM, cvP]; done)) (by decide)))) dX6_skill_55
  · have c1 := bI_1 c1
    obtain ⟨j, hj, rfl⟩ := mem_nat hn c1
    refine lv_iload_n hx hb dX6_skill_9 rfl (lv_at hl 2 rfl) ?_
    refine z_callS1 (rest := [.ref (q 0)]) S (c_X6_isSkill sk) qm_X6_85 t_X6_isSkill ⟨Nat.le_of_ble_eq_true rfl, Nat.le_of_ble_eq_true rfl⟩ rfl rfl hN hK hP hD hS hA rfl hl.1 rfl (Nat.le_of_ble_eq_true rfl) dX6_skill_10 ⟨Nat.le_of_ble_eq_true rfl, Nat.le_of_ble_eq_true rfl⟩ (fun H locs hP hD hS => ?_)
    refine lv_if_ne (tgt := 20) hx hb dX6_skill_13 (by decide) (fun c3 => ?_) (fun c3 => ?_)
    · have c3 := bI_1 c3
      obtain ⟨k_, hk_, rfl⟩ := skl_nat c3
      refine lv_iload_n hx hb dX6_skill_20 rfl (lv_at hl 3 rfl) ?_
      refine lv_iconst (v := 0) hx hb dX6_skill_21 (by decide) ?_
      refine lv_iconst (v := 1) hx hb dX6_skill_22 (by decide) ?_
      refine z_callS1 (rest := [.ref (q 0)]) S (c_X6_within xx 0 1) qm_X6_32 t_X6_within ⟨Nat.le_of_ble_eq_true rfl, Nat.le_of_ble_eq_true rfl⟩ rfl rfl hN hK hP hD hS hA rfl hl.1 rfl (Nat.le_of_ble_eq_true rfl) dX6_skill_23 ⟨Nat.le_of_ble_eq_true rfl, Nat.le_of_ble_eq_true rfl⟩ (fun H locs hP hD hS => ?_)
      refine lv_if_eq (tgt := 33) hx hb dX6_skill_26 (by decide) (fun c4 => ?_) (fun c4 => ?_)
      · have c4 := bI_0 c4
        refine lv_iconst (v := 2) hx hb dX6_skill_33 (by decide) ?_
        refine z_put (v := .int 2) (ty := .int) (ws2 := moW cI q z hi tx pa ke (upd mr 2 2) hs wr) hx hb hts inTX6 tyX6 tyX6_ok nmX6 hown hK hP hD hS (0) (mo_0) rfl 5 (by decide) (hts _ qf_X6_25) (fun _ h9 => h9) rfl (by decide +kernel) (rfl) (rfl) (Nat.le_of_ble_eq_true rfl) dX6_skill_34 (mo_w0 _ mfl_s2) (fun H locs hP hD hS => ?_)
        refine lv_aload_n hx hb dX6_skill_37 rfl (lv_at hl 0 rfl) ?_
        refine va_get (v := .int 2) hx hb hts inTX6 hown hK hP (0) (mo_0) rfl 5 (by decide) (hts _ qf_X6_25) (fun _ h9 => h9) (congrArg (fun x => some (Value.int x)) (upd_eq rfl)) dX6_skill_38 ?_
        refine lv_if_le (tgt := 48) hx hb dX6_skill_41 (by decide) (fun c5 => absurd c5 (by decide)) (fun c5 => ?_)
        have c5 := z_lt c5
        refine lv_iconst (v := 0) hx hb dX6_skill_44 (by decide) ?_
        refine lv_goto (tgt := 55) hx hb dX6_skill_45 (by decide) ?_
        exact z_iret hx hb hr hlocks hP hD hK hS (Eq.symm (xwf_n (K := kSkill n (nI j) (nI k_) xx) (k := 2) (by first | (simp only [kSkill, mP, sP, inP, cl, alwP, alwM, cvP, c1, nI_clamp (show j < 2 ^ 31 by omega), c3, nI_clamp (show k_ < 2 ^ 31 by omega), c4, c5, not_true_eq_false, not_false_eq_true, and_self, and_true, true_and, and_false, false_and, or_true, true_or, or_false, false_or, if_true, if_false, ite_true, ite_false]; done) | (simp [kSkill, mP, sP, inP, cl, alwP, alwM, cvP, c1, nI_clamp (show j < 2 ^ 31 by omega), c3, nI_clamp (show k_ < 2 ^ 31 by omega), c4, c5]; done) | (simp_all [kSkill, mP, sP, inP, cl, alwP, alwM, cvP]; done)) (by decide))) (congrArg (fun y_ => some (Value.int y_)) (Eq.symm (xv_n (K := kSkill n (nI j) (nI k_) xx) (k := 2) (by first | (simp only [kSkill, mP, sP, inP, cl, alwP, alwM, cvP, c1, nI_clamp (show j < 2 ^ 31 by omega), c3, nI_clamp (show k_ < 2 ^ 31 by omega), c4, c5, not_true_eq_false, not_false_eq_true, and_self, and_true, true_and, and_false, false_and, or_true, true_or, or_false, false_or, if_true, if_false, ite_true, ite_false]; done) | (simp [kSkill, mP, sP, inP, cl, alwP, alwM, cvP, c1, nI_clamp (show j < 2 ^ 31 by omega), c3, nI_clamp (show k_ < 2 ^ 31 by omega), c4, c5]; done) | (simp_all [kSkill, mP, sP, inP, cl, alwP, alwM, cvP]; done)) (by decide)))) dX6_skill_55
      · have c4 := bI_1 c4
        refine lv_iconst (v := 0) hx hb dX6_skill_29 (by decide) ?_
        refine lv_goto (tgt := 34) hx hb dX6_skill_30 (by decide) ?_
        refine z_put (v := .int 0) (ty := .int) (ws2 := moW cI q z hi tx pa ke (upd mr 2 0) hs wr) hx hb hts inTX6 tyX6 tyX6_ok nmX6 hown hK hP hD hS (0) (mo_0) rfl 5 (by decide) (hts _ qf_X6_25) (fun _ h9 => h9) rfl (by decide +kernel) (rfl) (rfl) (Nat.le_of_ble_eq_true rfl) dX6_skill_34 (mo_w0 _ mfl_s2) (fun H locs hP hD hS => ?_)
        refine lv_aload_n hx hb dX6_skill_37 rfl (lv_at hl 0 rfl) ?_
        refine va_get (v := .int 0) hx hb hts inTX6 hown hK hP (0) (mo_0) rfl 5 (by decide) (hts _ qf_X6_25) (fun _ h9 => h9) (congrArg (fun x => some (Value.int x)) (upd_eq rfl)) dX6_skill_38 ?_
        refine lv_if_le (tgt := 48) hx hb dX6_skill_41 (by decide) (fun c6 => ?_) (fun c6 => absurd (by decide) c6)
        have c6 := z_nlt c6
        refine lv_aload_n hx hb dX6_skill_48 rfl (lv_at hl 0 rfl) ?_
        refine lv_iload_n hx hb dX6_skill_49 rfl (lv_at hl 1 rfl) ?_
        refine lv_iload_n hx hb dX6_skill_50 rfl (lv_at hl 2 rfl) ?_
        refine lv_iload_n hx hb dX6_skill_51 rfl (lv_at hl 3 rfl) ?_
        refine z_callV1 (rest := []) S (c_X6_skillNow j k_ (show j < 8 by omega) (show k_ < 5 by omega) xx) qm_X6_150 v_X6_skillNow ⟨Nat.le_of_ble_eq_true rfl, Nat.le_of_ble_eq_true rfl⟩ rfl rfl hN hK hP hD hS hA (0) (mo_0) rfl rfl hl.1 rfl (Nat.le_of_ble_eq_true rfl) dX6_skill_52 ⟨Nat.le_of_ble_eq_true rfl, Nat.le_of_ble_eq_true rfl⟩ (fun H locs hP hD hS => ?_)
        exact z_iret hx hb hr hlocks hP hD hK hS (Eq.symm (xwf_0 (K := kSkill n (nI j) (nI k_) xx) (by first | (simp only [kSkill, mP, sP, inP, cl, alwP, alwM, cvP, c1, nI_clamp (show j < 2 ^ 31 by omega), c3, nI_clamp (show k_ < 2 ^ 31 by omega), c4, c6, not_true_eq_false, not_false_eq_true, and_self, and_true, true_and, and_false, false_and, or_true, true_or, or_false, false_or, if_true, if_false, ite_true, ite_false]; done) | (simp [kSkill, mP, sP, inP, cl, alwP, alwM, cvP, c1, nI_clamp (show j < 2 ^ 31 by omega), c3, nI_clamp (show k_ < 2 ^ 31 by omega), c4, c6]; done) | (simp_all [kSkill, mP, sP, inP, cl, alwP, alwM, cvP]; done)))) (congrArg (fun y_ => some (Value.int y_)) (Eq.trans (b := if xx = 0 then z (25 + 16 * cl (nI j) + cl (nI k_)) else ripeP (z (25 + 16 * cl (nI j) + cl (nI k_)))) (by simp only [cl, nI_clamp (show j < 2 ^ 31 by omega), nI_clamp (show k_ < 2 ^ 31 by omega)]) (Eq.symm (xv_0 (K := kSkill n (nI j) (nI k_) xx) (by first | (simp only [kSkill, mP, sP, inP, cl, alwP, alwM, cvP, c1, nI_clamp (show j < 2 ^ 31 by omega), c3, nI_clamp (show k_ < 2 ^ 31 by omega), c4, c6, not_true_eq_false, not_false_eq_true, and_self, and_true, true_and, and_false, false_and, or_true, true_or, or_false, false_or, if_true, if_false, ite_true, ite_false]; done) | (simp [kSkill, mP, sP, inP, cl, alwP, alwM, cvP, c1, nI_clamp (show j < 2 ^ 31 by omega), c3, nI_clamp (show k_ < 2 ^ 31 by omega), c4, c6]; done) | (simp_all [kSkill, mP, sP, inP, cl, alwP, alwM, cvP]; done)))))) dX6_skill_55
    · have c3 := bI_0 c3
      refine lv_iconst (v := 1) hx hb dX6_skill_16 (by decide) ?_
      refine lv_goto (tgt := 34) hx hb dX6_skill_17 (by decide) ?_
      refine z_put (v := .int 1) (ty := .int) (ws2 := moW cI q z hi tx pa ke (upd mr 2 1) hs wr) hx hb hts inTX6 tyX6 tyX6_ok nmX6 hown hK hP hD hS (0) (mo_0) rfl 5 (by decide) (hts _ qf_X6_25) (fun _ h9 => h9) rfl (by decide +kernel) (rfl) (rfl) (Nat.le_of_ble_eq_true rfl) dX6_skill_34 (mo_w0 _ mfl_s2) (fun H locs hP hD hS => ?_)
      refine lv_aload_n hx hb dX6_skill_37 rfl (lv_at hl 0 rfl) ?_
      refine va_get (v := .int 1) hx hb hts inTX6 hown hK hP (0) (mo_0) rfl 5 (by decide) (hts _ qf_X6_25) (fun _ h9 => h9) (congrArg (fun x => some (Value.int x)) (upd_eq rfl)) dX6_skill_38 ?_
      refine lv_if_le (tgt := 48) hx hb dX6_skill_41 (by decide) (fun c7 => absurd c7 (by decide)) (fun c7 => ?_)
      have c7 := z_lt c7
      refine lv_iconst (v := 0) hx hb dX6_skill_44 (by decide) ?_
      refine lv_goto (tgt := 55) hx hb dX6_skill_45 (by decide) ?_
      exact z_iret hx hb hr hlocks hP hD hK hS (Eq.symm (xwf_n (K := kSkill n (nI j) sk xx) (k := 1) (by first | (simp only [kSkill, mP, sP, inP, cl, alwP, alwM, cvP, c1, nI_clamp (show j < 2 ^ 31 by omega), c3, c7, not_true_eq_false, not_false_eq_true, and_self, and_true, true_and, and_false, false_and, or_true, true_or, or_false, false_or, if_true, if_false, ite_true, ite_false]; done) | (simp [kSkill, mP, sP, inP, cl, alwP, alwM, cvP, c1, nI_clamp (show j < 2 ^ 31 by omega), c3, c7]; done) | (simp_all [kSkill, mP, sP, inP, cl, alwP, alwM, cvP]; done)) (by decide))) (congrArg (fun y_ => some (Value.int y_)) (Eq.symm (xv_n (K := kSkill n (nI j) sk xx) (k := 1) (by first | (simp only [kSkill, mP, sP, inP, cl, alwP, alwM, cvP, c1, nI_clamp (show j < 2 ^ 31 by omega), c3, c7, not_true_eq_false, not_false_eq_true, and_self, and_true, true_and, and_false, false_and, or_true, true_or, or_false, false_or, if_true, if_false, ite_true, ite_false]; done) | (simp [kSkill, mP, sP, inP, cl, alwP, alwM, cvP, c1, nI_clamp (show j < 2 ^ 31 by omega), c3, c7]; done) | (simp_all [kSkill, mP, sP, inP, cl, alwP, alwM, cvP]; done)) (by decide)))) dX6_skill_55
set_option maxHeartbeats 4000000 in
set_option maxRecDepth 100000 in
theorem c_X6_count {n : Nat} (hn : n ≤ 8) (hz : z 5 = nI n) (hB : hBool z) (h12 : oneP (z 12) 8 = cntB z 1 n) (h13 : oneP (z 13) 8 = cntB z 2 n) {u : Nat} (hm : mr 0 = nI u) (xx : Int32) : zM l D (zT cI cC cM cB cJ) yX6_count cX6_count 2 (some .int) ({ frames := 3, cells := 0, slots := 0, locals := 67 } : Room) [.ref (q 0), .int xx] (moW cI q z hi tx pa ke mr hs wr) (xwf (kCount xx) (moW cI q z hi tx pa ke (upd mr 2 0) hs wr) (fun k_ => moW cI q z hi tx pa ke (upd mr 2 k_) hs wr)) (some (.int (xv (kCount xx) (numP z n u xx)))) 0 0 := by
  refine z_enter (by decide) (Nat.le_of_ble_eq_true rfl) ?_
  intro p e s m below meth c A S hr hlocks hnm hN hA hK hP hD hS ls hl
  obtain ⟨hx, hb, hml, hown, hts⟩ := id S
  have hl : lv_has ls 2 [(0, .ref (q 0)), (1, .int xx)] := hl
  have hP : va_P D vwCl (moW cI q z hi tx pa ke mr hs wr) s.heap := hP
  have hD : va_D A (moW cI q z hi tx pa ke mr hs wr) := hD
  refine lv_aload_n hx hb dX6_count_0 rfl (lv_at hl 0 rfl) ?_
  refine lv_iload_n hx hb dX6_count_1 rfl (lv_at hl 1 rfl) ?_
  refine lv_iconst (v := 0) hx hb dX6_count_2 (by decide) ?_
  refine lv_bipush (v := 13) hx hb dX6_count_3 (by decide) ?_
  refine z_callS1 (rest := [.ref (q 0)]) S (c_X6_within xx 0 13) qm_X6_32 t_X6_within ⟨Nat.le_of_ble_eq_true rfl, Nat.le_of_ble_eq_true rfl⟩ rfl rfl hN hK hP hD hS hA rfl hl.1 rfl (Nat.le_of_ble_eq_true rfl) dX6_count_5 ⟨Nat.le_of_ble_eq_true rfl, Nat.le_of_ble_eq_true rfl⟩ (fun H locs hP hD hS => ?_)
  refine lv_if_eq (tgt := 15) hx hb dX6_count_8 (by decide) (fun c1 => ?_) (fun c1 => ?_)
  · have c1 := bI_0 c1
    refine lv_iconst (v := 1) hx hb dX6_count_15 (by decide) ?_
    refine z_put (v := .int 1) (ty := .int) (ws2 := moW cI q z hi tx pa ke (upd mr 2 1) hs wr) hx hb hts inTX6 tyX6 tyX6_ok nmX6 hown hK hP hD hS (0) (mo_0) rfl 5 (by decide) (hts _ qf_X6_25) (fun _ h9 => h9) rfl (by decide +kernel) (rfl) (rfl) (Nat.le_of_ble_eq_true rfl) dX6_count_16 (mo_w0 _ mfl_s2) (fun H locs hP hD hS => ?_)
    refine lv_aload_n hx hb dX6_count_19 rfl (lv_at hl 0 rfl) ?_
    refine va_get (v := .int 1) hx hb hts inTX6 hown hK hP (0) (mo_0) rfl 5 (by decide) (hts _ qf_X6_25) (fun _ h9 => h9) (congrArg (fun x => some (Value.int x)) (upd_eq rfl)) dX6_count_20 ?_
    refine lv_if_le (tgt := 30) hx hb dX6_count_23 (by decide) (fun c2 => absurd c2 (by decide)) (fun c2 => ?_)
    have c2 := z_lt c2
    refine lv_iconst (v := 0) hx hb dX6_count_26 (by decide) ?_
    refine lv_goto (tgt := 35) hx hb dX6_count_27 (by decide) ?_
    exact z_iret hx hb hr hlocks hP hD hK hS (Eq.symm (xwf_n (K := kCount xx) (k := 1) (by first | (simp only [kCount, mP, sP, inP, cl, alwP, alwM, cvP, c1, c2, not_true_eq_false, not_false_eq_true, and_self, and_true, true_and, and_false, false_and, or_true, true_or, or_false, false_or, if_true, if_false, ite_true, ite_false]; done) | (simp [kCount, mP, sP, inP, cl, alwP, alwM, cvP, c1, c2]; done) | (simp_all [kCount, mP, sP, inP, cl, alwP, alwM, cvP]; done)) (by decide))) (congrArg (fun y_ => some (Value.int y_)) (Eq.symm (xv_n (K := kCount xx) (k := 1) (by first | (simp only [kCount, mP, sP, inP, cl, alwP, alwM, cvP, c1, c2, not_true_eq_false, not_false_eq_true, and_self, and_true, true_and, and_false, false_and, or_true, true_or, or_false, false_or, if_true, if_false, ite_true, ite_false]; done) | (simp [kCount, mP, sP, inP, cl, alwP, alwM, cvP, c1, c2]; done) | (simp_all [kCount, mP, sP, inP, cl, alwP, alwM, cvP]; done)) (by decide)))) dX6_count_35
  · have c1 := bI_1 c1
    refine lv_iconst (v := 0) hx hb dX6_count_11 (by decide) ?_
    refine lv_goto (tgt := 16) hx hb dX6_count_12 (by decide) ?_
    refine z_put (v := .int 0) (ty := .int) (ws2 := moW cI q z hi tx pa ke (upd mr 2 0) hs wr) hx hb hts inTX6 tyX6 tyX6_ok nmX6 hown hK hP hD hS (0) (mo_0) rfl 5 (by decide) (hts _ qf_X6_25) (fun _ h9 => h9) rfl (by decide +kernel) (rfl) (rfl) (Nat.le_of_ble_eq_true rfl) dX6_count_16 (mo_w0 _ mfl_s2) (fun H locs hP hD hS => ?_)
    refine lv_aload_n hx hb dX6_count_19 rfl (lv_at hl 0 rfl) ?_
    refine va_get (v := .int 0) hx hb hts inTX6 hown hK hP (0) (mo_0) rfl 5 (by decide) (hts _ qf_X6_25) (fun _ h9 => h9) (congrArg (fun x => some (Value.int x)) (upd_eq rfl)) dX6_count_20 ?_
    refine lv_if_le (tgt := 30) hx hb dX6_count_23 (by decide) (fun c3 => ?_) (fun c3 => absurd (by decide) c3)
    have c3 := z_nlt c3
    refine lv_aload_n hx hb dX6_count_30 rfl (lv_at hl 0 rfl) ?_
    refine lv_iload_n hx hb dX6_count_31 rfl (lv_at hl 1 rfl) ?_
    refine z_callV1 (rest := []) S (c_X6_counted (n := n) (show n ≤ 8 by omega) (hz) (hB) h12 h13 (u := u) ((upd_ne (by omega)).trans (hm)) xx) qm_X6_160 v_X6_counted ⟨Nat.le_of_ble_eq_true rfl, Nat.le_of_ble_eq_true rfl⟩ rfl rfl hN hK hP hD hS hA (0) (mo_0) rfl rfl hl.1 rfl (Nat.le_of_ble_eq_true rfl) dX6_count_32 ⟨Nat.le_of_ble_eq_true rfl, Nat.le_of_ble_eq_true rfl⟩ (fun H locs hP hD hS => ?_)
    exact z_iret hx hb hr hlocks hP hD hK hS (Eq.symm (xwf_0 (K := kCount xx) (by first | (simp only [kCount, mP, sP, inP, cl, alwP, alwM, cvP, c1, c3, not_true_eq_false, not_false_eq_true, and_self, and_true, true_and, and_false, false_and, or_true, true_or, or_false, false_or, if_true, if_false, ite_true, ite_false]; done) | (simp [kCount, mP, sP, inP, cl, alwP, alwM, cvP, c1, c3]; done) | (simp_all [kCount, mP, sP, inP, cl, alwP, alwM, cvP]; done)))) (congrArg (fun y_ => some (Value.int y_)) (Eq.trans (b := numP z n u xx) (rfl) (Eq.symm (xv_0 (K := kCount xx) (by first | (simp only [kCount, mP, sP, inP, cl, alwP, alwM, cvP, c1, c3, not_true_eq_false, not_false_eq_true, and_self, and_true, true_and, and_false, false_and, or_true, true_or, or_false, false_or, if_true, if_false, ite_true, ite_false]; done) | (simp [kCount, mP, sP, inP, cl, alwP, alwM, cvP, c1, c3]; done) | (simp_all [kCount, mP, sP, inP, cl, alwP, alwM, cvP]; done)))))) dX6_count_35
set_option maxHeartbeats 4000000 in
set_option maxRecDepth 100000 in
theorem c_X6_setting (st : Int32) : zM l D (zT cI cC cM cB cJ) yX6_setting cX6_setting 2 (some .int) ({ frames := 2, cells := 0, slots := 0, locals := 42 } : Room) [.ref (q 0), .int st] (moW cI q z hi tx pa ke mr hs wr) (xwf (kSetting st) (moW cI q z hi tx pa ke (upd mr 2 0) hs wr) (fun k_ => moW cI q z hi tx pa ke (upd mr 2 k_) hs wr)) (some (.int (xv (kSetting st) (z (cl st))))) 0 0 := by
  refine z_enter (by decide) (Nat.le_of_ble_eq_true rfl) ?_
  intro p e s m below meth c A S hr hlocks hnm hN hA hK hP hD hS ls hl
  obtain ⟨hx, hb, hml, hown, hts⟩ := id S
  have hl : lv_has ls 2 [(0, .ref (q 0)), (1, .int st)] := hl
  have hP : va_P D vwCl (moW cI q z hi tx pa ke mr hs wr) s.heap := hP
  have hD : va_D A (moW cI q z hi tx pa ke mr hs wr) := hD
  refine lv_aload_n hx hb dX6_setting_0 rfl (lv_at hl 0 rfl) ?_
  refine lv_iload_n hx hb dX6_setting_1 rfl (lv_at hl 1 rfl) ?_
  refine z_callS1 (rest := [.ref (q 0)]) S (c_X6_isSetting st) qm_X6_105 t_X6_isSetting ⟨Nat.le_of_ble_eq_true rfl, Nat.le_of_ble_eq_true rfl⟩ rfl rfl hN hK hP hD hS hA rfl hl.1 rfl (Nat.le_of_ble_eq_true rfl) dX6_setting_2 ⟨Nat.le_of_ble_eq_true rfl, Nat.le_of_ble_eq_true rfl⟩ (fun H locs hP hD hS => ?_)
  refine lv_if_eq (tgt := 12) hx hb dX6_setting_5 (by decide) (fun c1 => ?_) (fun c1 => ?_)
  · have c1 := bI_0 c1
    refine lv_iconst (v := 1) hx hb dX6_setting_12 (by decide) ?_
    refine z_put (v := .int 1) (ty := .int) (ws2 := moW cI q z hi tx pa ke (upd mr 2 1) hs wr) hx hb hts inTX6 tyX6 tyX6_ok nmX6 hown hK hP hD hS (0) (mo_0) rfl 5 (by decide) (hts _ qf_X6_25) (fun _ h9 => h9) rfl (by decide +kernel) (rfl) (rfl) (Nat.le_of_ble_eq_true rfl) dX6_setting_13 (mo_w0 _ mfl_s2) (fun H locs hP hD hS => ?_)
    refine lv_aload_n hx hb dX6_setting_16 rfl (lv_at hl 0 rfl) ?_
    refine va_get (v := .int 1) hx hb hts inTX6 hown hK hP (0) (mo_0) rfl 5 (by decide) (hts _ qf_X6_25) (fun _ h9 => h9) (congrArg (fun x => some (Value.int x)) (upd_eq rfl)) dX6_setting_17 ?_
    refine lv_if_le (tgt := 27) hx hb dX6_setting_20 (by decide) (fun c2 => absurd c2 (by decide)) (fun c2 => ?_)
    have c2 := z_lt c2
    refine lv_iconst (v := 0) hx hb dX6_setting_23 (by decide) ?_
    refine lv_goto (tgt := 33) hx hb dX6_setting_24 (by decide) ?_
    exact z_iret hx hb hr hlocks hP hD hK hS (Eq.symm (xwf_n (K := kSetting st) (k := 1) (by first | (simp only [kSetting, mP, sP, inP, cl, alwP, alwM, cvP, c1, c2, not_true_eq_false, not_false_eq_true, and_self, and_true, true_and, and_false, false_and, or_true, true_or, or_false, false_or, if_true, if_false, ite_true, ite_false]; done) | (simp [kSetting, mP, sP, inP, cl, alwP, alwM, cvP, c1, c2]; done) | (simp_all [kSetting, mP, sP, inP, cl, alwP, alwM, cvP]; done)) (by decide))) (congrArg (fun y_ => some (Value.int y_)) (Eq.symm (xv_n (K := kSetting st) (k := 1) (by first | (simp only [kSetting, mP, sP, inP, cl, alwP, alwM, cvP, c1, c2, not_true_eq_false, not_false_eq_true, and_self, and_true, true_and, and_false, false_and, or_true, true_or, or_false, false_or, if_true, if_false, ite_true, ite_false]; done) | (simp [kSetting, mP, sP, inP, cl, alwP, alwM, cvP, c1, c2]; done) | (simp_all [kSetting, mP, sP, inP, cl, alwP, alwM, cvP]; done)) (by decide)))) dX6_setting_33
  · have c1 := bI_1 c1
    obtain ⟨k_, hk_, rfl⟩ := skl_nat c1
    refine lv_iconst (v := 0) hx hb dX6_setting_8 (by decide) ?_
    refine lv_goto (tgt := 13) hx hb dX6_setting_9 (by decide) ?_
    refine z_put (v := .int 0) (ty := .int) (ws2 := moW cI q z hi tx pa ke (upd mr 2 0) hs wr) hx hb hts inTX6 tyX6 tyX6_ok nmX6 hown hK hP hD hS (0) (mo_0) rfl 5 (by decide) (hts _ qf_X6_25) (fun _ h9 => h9) rfl (by decide +kernel) (rfl) (rfl) (Nat.le_of_ble_eq_true rfl) dX6_setting_13 (mo_w0 _ mfl_s2) (fun H locs hP hD hS => ?_)
    refine lv_aload_n hx hb dX6_setting_16 rfl (lv_at hl 0 rfl) ?_
    refine va_get (v := .int 0) hx hb hts inTX6 hown hK hP (0) (mo_0) rfl 5 (by decide) (hts _ qf_X6_25) (fun _ h9 => h9) (congrArg (fun x => some (Value.int x)) (upd_eq rfl)) dX6_setting_17 ?_
    refine lv_if_le (tgt := 27) hx hb dX6_setting_20 (by decide) (fun c3 => ?_) (fun c3 => absurd (by decide) c3)
    have c3 := z_nlt c3
    refine lv_aload_n hx hb dX6_setting_27 rfl (lv_at hl 0 rfl) ?_
    refine va_get (v := .ref (q 1)) hx hb hts inTX6 hown hK hP (0) (mo_0) rfl 0 (by decide) (hts _ qf_X6_7) (fun _ h9 => h9) (rfl) dX6_setting_28 ?_
    refine lv_iload_n hx hb dX6_setting_31 rfl (lv_at hl 1 rfl) ?_
    refine va_iald hx hb hK hP (1) 0 (mo_1) rfl (vp_in_nI (show k_ < 142 by omega) (by omega)) dX6_setting_32 ?_
    refine z_top (v2 := .int (z k_)) (congrArg Value.int (((congrArg (zfn z) (z_cl (k := k_) rfl)).trans (zfn_at (by omega))).trans (rfl))) ?_
    exact z_iret hx hb hr hlocks hP hD hK hS (Eq.symm (xwf_0 (K := kSetting (nI k_)) (by first | (simp only [kSetting, mP, sP, inP, cl, alwP, alwM, cvP, c1, nI_clamp (show k_ < 2 ^ 31 by omega), c3, not_true_eq_false, not_false_eq_true, and_self, and_true, true_and, and_false, false_and, or_true, true_or, or_false, false_or, if_true, if_false, ite_true, ite_false]; done) | (simp [kSetting, mP, sP, inP, cl, alwP, alwM, cvP, c1, nI_clamp (show k_ < 2 ^ 31 by omega), c3]; done) | (simp_all [kSetting, mP, sP, inP, cl, alwP, alwM, cvP]; done)))) (congrArg (fun y_ => some (Value.int y_)) (Eq.trans (b := z (cl (nI k_))) (by simp only [cl, nI_clamp (show k_ < 2 ^ 31 by omega)]) (Eq.symm (xv_0 (K := kSetting (nI k_)) (by first | (simp only [kSetting, mP, sP, inP, cl, alwP, alwM, cvP, c1, nI_clamp (show k_ < 2 ^ 31 by omega), c3, not_true_eq_false, not_false_eq_true, and_self, and_true, true_and, and_false, false_and, or_true, true_or, or_false, false_or, if_true, if_false, ite_true, ite_false]; done) | (simp [kSetting, mP, sP, inP, cl, alwP, alwM, cvP, c1, nI_clamp (show k_ < 2 ^ 31 by omega), c3]; done) | (simp_all [kSetting, mP, sP, inP, cl, alwP, alwM, cvP]; done)))))) dX6_setting_33
set_option maxHeartbeats 4000000 in
set_option maxRecDepth 100000 in
theorem c_X6_worth {n : Nat} (hn : n ≤ 8) (hz : z 5 = nI n) (hB : hBool z) (mb sk mn : Int32) : zM l D (zT cI cC cM cB cJ) yX6_worth cX6_worth 4 (some .int) ({ frames := 3, cells := 0, slots := 0, locals := 68 } : Room) [.ref (q 0), .int mb, .int sk, .int mn] (moW cI q z hi tx pa ke mr hs wr) (xwf (kWorth n mb sk mn) (moW cI q z hi tx pa ke (upd mr 2 0) hs wr) (fun k_ => moW cI q z hi tx pa ke (upd mr 2 k_) hs wr)) (some (.int (xv (kWorth n mb sk mn) (valP (z (25 + 16 * cl mb + cl sk)) mn)))) 0 0 := by
  refine z_enter (by decide) (Nat.le_of_ble_eq_true rfl) ?_
  intro p e s m below meth c A S hr hlocks hnm hN hA hK hP hD hS ls hl
  obtain ⟨hx, hb, hml, hown, hts⟩ := id S
  have hl : lv_has ls 4 [(0, .ref (q 0)), (1, .int mb), (2, .int sk), (3, .int mn)] := hl
  have hP : va_P D vwCl (moW cI q z hi tx pa ke mr hs wr) s.heap := hP
  have hD : va_D A (moW cI q z hi tx pa ke mr hs wr) := hD
  refine lv_aload_n hx hb dX6_worth_0 rfl (lv_at hl 0 rfl) ?_
  refine lv_aload_n hx hb dX6_worth_1 rfl (lv_at hl 0 rfl) ?_
  refine lv_iload_n hx hb dX6_worth_2 rfl (lv_at hl 1 rfl) ?_
  refine z_callV1 (rest := [.ref (q 0)]) S (c_X6_isMember (n := n) (show n ≤ 8 by omega) (hz) mb) qm_X6_64 v_X6_isMember ⟨Nat.le_of_ble_eq_true rfl, Nat.le_of_ble_eq_true rfl⟩ rfl rfl hN hK hP hD hS hA (0) (mo_0) rfl rfl hl.1 rfl (Nat.le_of_ble_eq_true rfl) dX6_worth_3 ⟨Nat.le_of_ble_eq_true rfl, Nat.le_of_ble_eq_true rfl⟩ (fun H locs hP hD hS => ?_)
  refine lv_if_eq (tgt := 16) hx hb dX6_worth_6 (by decide) (fun c1 => ?_) (fun c1 => ?_)
  · have c1 := bI_0 c1
    refine lv_iconst (v := 1) hx hb dX6_worth_16 (by decide) ?_
    refine lv_goto (tgt := 32) hx hb dX6_worth_17 (by decide) ?_
    refine z_put (v := .int 1) (ty := .int) (ws2 := moW cI q z hi tx pa ke (upd mr 2 1) hs wr) hx hb hts inTX6 tyX6 tyX6_ok nmX6 hown hK hP hD hS (0) (mo_0) rfl 5 (by decide) (hts _ qf_X6_25) (fun _ h9 => h9) rfl (by decide +kernel) (rfl) (rfl) (Nat.le_of_ble_eq_true rfl) dX6_worth_32 (mo_w0 _ mfl_s2) (fun H locs hP hD hS => ?_)
    refine lv_aload_n hx hb dX6_worth_35 rfl (lv_at hl 0 rfl) ?_
    refine va_get (v := .int 1) hx hb hts inTX6 hown hK hP (0) (mo_0) rfl 5 (by decide) (hts _ qf_X6_25) (fun _ h9 => h9) (congrArg (fun x => some (Value.int x)) (upd_eq rfl)) dX6_worth_36 ?_
    refine lv_if_le (tgt := 46) hx hb dX6_worth_39 (by decide) (fun c2 => absurd c2 (by decide)) (fun c2 => ?_)
    have c2 := z_lt c2
    refine lv_iconst (v := 0) hx hb dX6_worth_42 (by decide) ?_
    refine lv_goto (tgt := 53) hx hb dX6_worth_43 (by decide) ?_
    exact z_iret hx hb hr hlocks hP hD hK hS (Eq.symm (xwf_n (K := kWorth n mb sk mn) (k := 1) (by first | (simp only [kWorth, mP, sP, inP, cl, alwP, alwM, cvP, c1, c2, not_true_eq_false, not_false_eq_true, and_self, and_true, true_and, and_false, false_and, or_true, true_or, or_false, false_or, if_true, if_false, ite_true, ite_false]; done) | (simp [kWorth, mP, sP, inP, cl, alwP, alwM, cvP, c1, c2]; done) | (simp_all [kWorth, mP, sP, inP, cl, alwP, alwM, cvP]; done)) (by decide))) (congrArg (fun y_ => some (Value.int y_)) (Eq.symm (xv_n (K := kWorth n mb sk mn) (k := 1) (by first | (simp only [kWorth, mP, sP, inP, cl, alwP, alwM, cvP, c1, c2, not_true_eq_false, not_false_eq_true, and_self, and_true, true_and, and_false, false_and, or_true, true_or, or_false, false_or, if_true, if_false, ite_true, ite_false]; done) | (simp [kWorth, mP, sP, inP, cl, alwP, alwM, cvP, c1, c2]; done) | (simp_all [kWorth, mP, sP, inP, cl, alwP, alwM, cvP]; done)) (by decide)))) dX6_worth_53
  · have c1 := bI_1 c1
    obtain ⟨j, hj, rfl⟩ := mem_nat hn c1
    refine lv_iload_n hx hb dX6_worth_9 rfl (lv_at hl 2 rfl) ?_
    refine z_callS1 (rest := [.ref (q 0)]) S (c_X6_isSkill sk) qm_X6_85 t_X6_isSkill ⟨Nat.le_of_ble_eq_true rfl, Nat.le_of_ble_eq_true rfl⟩ rfl rfl hN hK hP hD hS hA rfl hl.1 rfl (Nat.le_of_ble_eq_true rfl) dX6_worth_10 ⟨Nat.le_of_ble_eq_true rfl, Nat.le_of_ble_eq_true rfl⟩ (fun H locs hP hD hS => ?_)
    refine lv_if_ne (tgt := 20) hx hb dX6_worth_13 (by decide) (fun c3 => ?_) (fun c3 => ?_)
    · have c3 := bI_1 c3
      obtain ⟨k_, hk_, rfl⟩ := skl_nat c3
      refine lv_iload_n hx hb dX6_worth_20 rfl (lv_at hl 3 rfl) ?_
      refine z_callS1 (rest := [.ref (q 0)]) S (c_X6_areMinutes mn) qm_X6_88 t_X6_areMinutes ⟨Nat.le_of_ble_eq_true rfl, Nat.le_of_ble_eq_true rfl⟩ rfl rfl hN hK hP hD hS hA rfl hl.1 rfl (Nat.le_of_ble_eq_true rfl) dX6_worth_21 ⟨Nat.le_of_ble_eq_true rfl, Nat.le_of_ble_eq_true rfl⟩ (fun H locs hP hD hS => ?_)
      refine lv_if_eq (tgt := 31) hx hb dX6_worth_24 (by decide) (fun c4 => ?_) (fun c4 => ?_)
      · have c4 := bI_0 c4
        refine lv_iconst (v := 2) hx hb dX6_worth_31 (by decide) ?_
        refine z_put (v := .int 2) (ty := .int) (ws2 := moW cI q z hi tx pa ke (upd mr 2 2) hs wr) hx hb hts inTX6 tyX6 tyX6_ok nmX6 hown hK hP hD hS (0) (mo_0) rfl 5 (by decide) (hts _ qf_X6_25) (fun _ h9 => h9) rfl (by decide +kernel) (rfl) (rfl) (Nat.le_of_ble_eq_true rfl) dX6_worth_32 (mo_w0 _ mfl_s2) (fun H locs hP hD hS => ?_)
        refine lv_aload_n hx hb dX6_worth_35 rfl (lv_at hl 0 rfl) ?_
        refine va_get (v := .int 2) hx hb hts inTX6 hown hK hP (0) (mo_0) rfl 5 (by decide) (hts _ qf_X6_25) (fun _ h9 => h9) (congrArg (fun x => some (Value.int x)) (upd_eq rfl)) dX6_worth_36 ?_
        refine lv_if_le (tgt := 46) hx hb dX6_worth_39 (by decide) (fun c5 => absurd c5 (by decide)) (fun c5 => ?_)
        have c5 := z_lt c5
        refine lv_iconst (v := 0) hx hb dX6_worth_42 (by decide) ?_
        refine lv_goto (tgt := 53) hx hb dX6_worth_43 (by decide) ?_
        exact z_iret hx hb hr hlocks hP hD hK hS (Eq.symm (xwf_n (K := kWorth n (nI j) (nI k_) mn) (k := 2) (by first | (simp only [kWorth, mP, sP, inP, cl, alwP, alwM, cvP, c1, nI_clamp (show j < 2 ^ 31 by omega), c3, nI_clamp (show k_ < 2 ^ 31 by omega), c4, c5, not_true_eq_false, not_false_eq_true, and_self, and_true, true_and, and_false, false_and, or_true, true_or, or_false, false_or, if_true, if_false, ite_true, ite_false]; done) | (simp [kWorth, mP, sP, inP, cl, alwP, alwM, cvP, c1, nI_clamp (show j < 2 ^ 31 by omega), c3, nI_clamp (show k_ < 2 ^ 31 by omega), c4, c5]; done) | (simp_all [kWorth, mP, sP, inP, cl, alwP, alwM, cvP]; done)) (by decide))) (congrArg (fun y_ => some (Value.int y_)) (Eq.symm (xv_n (K := kWorth n (nI j) (nI k_) mn) (k := 2) (by first | (simp only [kWorth, mP, sP, inP, cl, alwP, alwM, cvP, c1, nI_clamp (show j < 2 ^ 31 by omega), c3, nI_clamp (show k_ < 2 ^ 31 by omega), c4, c5, not_true_eq_false, not_false_eq_true, and_self, and_true, true_and, and_false, false_and, or_true, true_or, or_false, false_or, if_true, if_false, ite_true, ite_false]; done) | (simp [kWorth, mP, sP, inP, cl, alwP, alwM, cvP, c1, nI_clamp (show j < 2 ^ 31 by omega), c3, nI_clamp (show k_ < 2 ^ 31 by omega), c4, c5]; done) | (simp_all [kWorth, mP, sP, inP, cl, alwP, alwM, cvP]; done)) (by decide)))) dX6_worth_53
      · have c4 := bI_1 c4
        refine lv_iconst (v := 0) hx hb dX6_worth_27 (by decide) ?_
        refine lv_goto (tgt := 32) hx hb dX6_worth_28 (by decide) ?_
        refine z_put (v := .int 0) (ty := .int) (ws2 := moW cI q z hi tx pa ke (upd mr 2 0) hs wr) hx hb hts inTX6 tyX6 tyX6_ok nmX6 hown hK hP hD hS (0) (mo_0) rfl 5 (by decide) (hts _ qf_X6_25) (fun _ h9 => h9) rfl (by decide +kernel) (rfl) (rfl) (Nat.le_of_ble_eq_true rfl) dX6_worth_32 (mo_w0 _ mfl_s2) (fun H locs hP hD hS => ?_)
        refine lv_aload_n hx hb dX6_worth_35 rfl (lv_at hl 0 rfl) ?_
        refine va_get (v := .int 0) hx hb hts inTX6 hown hK hP (0) (mo_0) rfl 5 (by decide) (hts _ qf_X6_25) (fun _ h9 => h9) (congrArg (fun x => some (Value.int x)) (upd_eq rfl)) dX6_worth_36 ?_
        refine lv_if_le (tgt := 46) hx hb dX6_worth_39 (by decide) (fun c6 => ?_) (fun c6 => absurd (by decide) c6)
        have c6 := z_nlt c6
        refine lv_aload_n hx hb dX6_worth_46 rfl (lv_at hl 0 rfl) ?_
        refine lv_iload_n hx hb dX6_worth_47 rfl (lv_at hl 1 rfl) ?_
        refine lv_iload_n hx hb dX6_worth_48 rfl (lv_at hl 2 rfl) ?_
        refine lv_iload_n hx hb dX6_worth_49 rfl (lv_at hl 3 rfl) ?_
        refine z_callV1 (rest := []) S (c_X6_valueOf j k_ (show j < 8 by omega) (show k_ < 5 by omega) mn) qm_X6_77 v_X6_valueOf ⟨Nat.le_of_ble_eq_true rfl, Nat.le_of_ble_eq_true rfl⟩ rfl rfl hN hK hP hD hS hA (0) (mo_0) rfl rfl hl.1 rfl (Nat.le_of_ble_eq_true rfl) dX6_worth_50 ⟨Nat.le_of_ble_eq_true rfl, Nat.le_of_ble_eq_true rfl⟩ (fun H locs hP hD hS => ?_)
        exact z_iret hx hb hr hlocks hP hD hK hS (Eq.symm (xwf_0 (K := kWorth n (nI j) (nI k_) mn) (by first | (simp only [kWorth, mP, sP, inP, cl, alwP, alwM, cvP, c1, nI_clamp (show j < 2 ^ 31 by omega), c3, nI_clamp (show k_ < 2 ^ 31 by omega), c4, c6, not_true_eq_false, not_false_eq_true, and_self, and_true, true_and, and_false, false_and, or_true, true_or, or_false, false_or, if_true, if_false, ite_true, ite_false]; done) | (simp [kWorth, mP, sP, inP, cl, alwP, alwM, cvP, c1, nI_clamp (show j < 2 ^ 31 by omega), c3, nI_clamp (show k_ < 2 ^ 31 by omega), c4, c6]; done) | (simp_all [kWorth, mP, sP, inP, cl, alwP, alwM, cvP]; done)))) (congrArg (fun y_ => some (Value.int y_)) (Eq.trans (b := valP (z (25 + 16 * cl (nI j) + cl (nI k_))) mn) (by simp only [cl, nI_clamp (show j < 2 ^ 31 by omega), nI_clamp (show k_ < 2 ^ 31 by omega)]) (Eq.symm (xv_0 (K := kWorth n (nI j) (nI k_) mn) (by first | (simp only [kWorth, mP, sP, inP, cl, alwP, alwM, cvP, c1, nI_clamp (show j < 2 ^ 31 by omega), c3, nI_clamp (show k_ < 2 ^ 31 by omega), c4, c6, not_true_eq_false, not_false_eq_true, and_self, and_true, true_and, and_false, false_and, or_true, true_or, or_false, false_or, if_true, if_false, ite_true, ite_false]; done) | (simp [kWorth, mP, sP, inP, cl, alwP, alwM, cvP, c1, nI_clamp (show j < 2 ^ 31 by omega), c3, nI_clamp (show k_ < 2 ^ 31 by omega), c4, c6]; done) | (simp_all [kWorth, mP, sP, inP, cl, alwP, alwM, cvP]; done)))))) dX6_worth_53
    · have c3 := bI_0 c3
      refine lv_iconst (v := 1) hx hb dX6_worth_16 (by decide) ?_
      refine lv_goto (tgt := 32) hx hb dX6_worth_17 (by decide) ?_
      refine z_put (v := .int 1) (ty := .int) (ws2 := moW cI q z hi tx pa ke (upd mr 2 1) hs wr) hx hb hts inTX6 tyX6 tyX6_ok nmX6 hown hK hP hD hS (0) (mo_0) rfl 5 (by decide) (hts _ qf_X6_25) (fun _ h9 => h9) rfl (by decide +kernel) (rfl) (rfl) (Nat.le_of_ble_eq_true rfl) dX6_worth_32 (mo_w0 _ mfl_s2) (fun H locs hP hD hS => ?_)
      refine lv_aload_n hx hb dX6_worth_35 rfl (lv_at hl 0 rfl) ?_
      refine va_get (v := .int 1) hx hb hts inTX6 hown hK hP (0) (mo_0) rfl 5 (by decide) (hts _ qf_X6_25) (fun _ h9 => h9) (congrArg (fun x => some (Value.int x)) (upd_eq rfl)) dX6_worth_36 ?_
      refine lv_if_le (tgt := 46) hx hb dX6_worth_39 (by decide) (fun c7 => absurd c7 (by decide)) (fun c7 => ?_)
      have c7 := z_lt c7
      refine lv_iconst (v := 0) hx hb dX6_worth_42 (by decide) ?_
      refine lv_goto (tgt := 53) hx hb dX6_worth_43 (by decide) ?_
      exact z_iret hx hb hr hlocks hP hD hK hS (Eq.symm (xwf_n (K := kWorth n (nI j) sk mn) (k := 1) (by first | (simp only [kWorth, mP, sP, inP, cl, alwP, alwM, cvP, c1, nI_clamp (show j < 2 ^ 31 by omega), c3, c7, not_true_eq_false, not_false_eq_true, and_self, and_true, true_and, and_false, false_and, or_true, true_or, or_false, false_or, if_true, if_false, ite_true, ite_false]; done) | (simp [kWorth, mP, sP, inP, cl, alwP, alwM, cvP, c1, nI_clamp (show j < 2 ^ 31 by omega), c3, c7]; done) | (simp_all [kWorth, mP, sP, inP, cl, alwP, alwM, cvP]; done)) (by decide))) (congrArg (fun y_ => some (Value.int y_)) (Eq.symm (xv_n (K := kWorth n (nI j) sk mn) (k := 1) (by first | (simp only [kWorth, mP, sP, inP, cl, alwP, alwM, cvP, c1, nI_clamp (show j < 2 ^ 31 by omega), c3, c7, not_true_eq_false, not_false_eq_true, and_self, and_true, true_and, and_false, false_and, or_true, true_or, or_false, false_or, if_true, if_false, ite_true, ite_false]; done) | (simp [kWorth, mP, sP, inP, cl, alwP, alwM, cvP, c1, nI_clamp (show j < 2 ^ 31 by omega), c3, c7]; done) | (simp_all [kWorth, mP, sP, inP, cl, alwP, alwM, cvP]; done)) (by decide)))) dX6_worth_53
set_option maxHeartbeats 4000000 in
set_option maxRecDepth 100000 in
theorem c_X6_longest {n : Nat} (hn : n ≤ 8) (hz : z 5 = nI n) (hB : hBool z) (ga ta sk : Int32) : zM l D (zT cI cC cM cB cJ) yX6_longest cX6_longest 4 (some .int) ({ frames := 5, cells := 0, slots := 0, locals := 116 } : Room) [.ref (q 0), .int ga, .int ta, .int sk] (moW cI q z hi tx pa ke mr hs wr) (xwf (kLongest n ga ta sk) (moW cI q z hi tx pa ke (upd mr 2 0) hs wr) (fun k_ => moW cI q z hi tx pa ke (upd mr 2 k_) hs wr)) (some (.int (xv (kLongest n ga ta sk) (lgM z (cl ga) (cl ta) (cl sk) 600)))) 0 0 := by
  refine z_enter (by decide) (Nat.le_of_ble_eq_true rfl) ?_
  intro p e s m below meth c A S hr hlocks hnm hN hA hK hP hD hS ls hl
  obtain ⟨hx, hb, hml, hown, hts⟩ := id S
  have hl : lv_has ls 4 [(0, .ref (q 0)), (1, .int ga), (2, .int ta), (3, .int sk)] := hl
  have hP : va_P D vwCl (moW cI q z hi tx pa ke mr hs wr) s.heap := hP
  have hD : va_D A (moW cI q z hi tx pa ke mr hs wr) := hD
  refine lv_aload_n hx hb dX6_longest_0 rfl (lv_at hl 0 rfl) ?_
  refine lv_aload_n hx hb dX6_longest_1 rfl (lv_at hl 0 rfl) ?_
  refine lv_iload_n hx hb dX6_longest_2 rfl (lv_at hl 1 rfl) ?_
  refine z_callV1 (rest := [.ref (q 0)]) S (c_X6_isMember (n := n) (show n ≤ 8 by omega) (hz) ga) qm_X6_64 v_X6_isMember ⟨Nat.le_of_ble_eq_true rfl, Nat.le_of_ble_eq_true rfl⟩ rfl rfl hN hK hP hD hS hA (0) (mo_0) rfl rfl hl.1 rfl (Nat.le_of_ble_eq_true rfl) dX6_longest_3 ⟨Nat.le_of_ble_eq_true rfl, Nat.le_of_ble_eq_true rfl⟩ (fun H locs hP hD hS => ?_)
  refine lv_if_eq (tgt := 28) hx hb dX6_longest_6 (by decide) (fun c1 => ?_) (fun c1 => ?_)
  · have c1 := bI_0 c1
    refine lv_iconst (v := 1) hx hb dX6_longest_28 (by decide) ?_
    refine z_put (v := .int 1) (ty := .int) (ws2 := moW cI q z hi tx pa ke (upd mr 2 1) hs wr) hx hb hts inTX6 tyX6 tyX6_ok nmX6 hown hK hP hD hS (0) (mo_0) rfl 5 (by decide) (hts _ qf_X6_25) (fun _ h9 => h9) rfl (by decide +kernel) (rfl) (rfl) (Nat.le_of_ble_eq_true rfl) dX6_longest_29 (mo_w0 _ mfl_s2) (fun H locs hP hD hS => ?_)
    refine lv_aload_n hx hb dX6_longest_32 rfl (lv_at hl 0 rfl) ?_
    refine va_get (v := .int 1) hx hb hts inTX6 hown hK hP (0) (mo_0) rfl 5 (by decide) (hts _ qf_X6_25) (fun _ h9 => h9) (congrArg (fun x => some (Value.int x)) (upd_eq rfl)) dX6_longest_33 ?_
    refine lv_if_le (tgt := 43) hx hb dX6_longest_36 (by decide) (fun c2 => absurd c2 (by decide)) (fun c2 => ?_)
    have c2 := z_lt c2
    refine lv_iconst (v := 0) hx hb dX6_longest_39 (by decide) ?_
    refine lv_goto (tgt := 50) hx hb dX6_longest_40 (by decide) ?_
    exact z_iret hx hb hr hlocks hP hD hK hS (Eq.symm (xwf_n (K := kLongest n ga ta sk) (k := 1) (by first | (simp only [kLongest, mP, sP, inP, cl, alwP, alwM, cvP, c1, c2, not_true_eq_false, not_false_eq_true, and_self, and_true, true_and, and_false, false_and, or_true, true_or, or_false, false_or, if_true, if_false, ite_true, ite_false]; done) | (simp [kLongest, mP, sP, inP, cl, alwP, alwM, cvP, c1, c2]; done) | (simp_all [kLongest, mP, sP, inP, cl, alwP, alwM, cvP]; done)) (by decide))) (congrArg (fun y_ => some (Value.int y_)) (Eq.symm (xv_n (K := kLongest n ga ta sk) (k := 1) (by first | (simp only [kLongest, mP, sP, inP, cl, alwP, alwM, cvP, c1, c2, not_true_eq_false, not_false_eq_true, and_self, and_true, true_and, and_false, false_and, or_true, true_or, or_false, false_or, if_true, if_false, ite_true, ite_false]; done) | (simp [kLongest, mP, sP, inP, cl, alwP, alwM, cvP, c1, c2]; done) | (simp_all [kLongest, mP, sP, inP, cl, alwP, alwM, cvP]; done)) (by decide)))) dX6_longest_50
  · have c1 := bI_1 c1
    obtain ⟨g_, hg_, rfl⟩ := mem_nat hn c1
    refine lv_aload_n hx hb dX6_longest_9 rfl (lv_at hl 0 rfl) ?_
    refine lv_iload_n hx hb dX6_longest_10 rfl (lv_at hl 2 rfl) ?_
    refine z_callV1 (rest := [.ref (q 0)]) S (c_X6_isMember (n := n) (show n ≤ 8 by omega) (hz) ta) qm_X6_64 v_X6_isMember ⟨Nat.le_of_ble_eq_true rfl, Nat.le_of_ble_eq_true rfl⟩ rfl rfl hN hK hP hD hS hA (0) (mo_0) rfl rfl hl.1 rfl (Nat.le_of_ble_eq_true rfl) dX6_longest_11 ⟨Nat.le_of_ble_eq_true rfl, Nat.le_of_ble_eq_true rfl⟩ (fun H locs hP hD hS => ?_)
    refine lv_if_eq (tgt := 28) hx hb dX6_longest_14 (by decide) (fun c3 => ?_) (fun c3 => ?_)
    · have c3 := bI_0 c3
      refine lv_iconst (v := 1) hx hb dX6_longest_28 (by decide) ?_
      refine z_put (v := .int 1) (ty := .int) (ws2 := moW cI q z hi tx pa ke (upd mr 2 1) hs wr) hx hb hts inTX6 tyX6 tyX6_ok nmX6 hown hK hP hD hS (0) (mo_0) rfl 5 (by decide) (hts _ qf_X6_25) (fun _ h9 => h9) rfl (by decide +kernel) (rfl) (rfl) (Nat.le_of_ble_eq_true rfl) dX6_longest_29 (mo_w0 _ mfl_s2) (fun H locs hP hD hS => ?_)
      refine lv_aload_n hx hb dX6_longest_32 rfl (lv_at hl 0 rfl) ?_
      refine va_get (v := .int 1) hx hb hts inTX6 hown hK hP (0) (mo_0) rfl 5 (by decide) (hts _ qf_X6_25) (fun _ h9 => h9) (congrArg (fun x => some (Value.int x)) (upd_eq rfl)) dX6_longest_33 ?_
      refine lv_if_le (tgt := 43) hx hb dX6_longest_36 (by decide) (fun c4 => absurd c4 (by decide)) (fun c4 => ?_)
      have c4 := z_lt c4
      refine lv_iconst (v := 0) hx hb dX6_longest_39 (by decide) ?_
      refine lv_goto (tgt := 50) hx hb dX6_longest_40 (by decide) ?_
      exact z_iret hx hb hr hlocks hP hD hK hS (Eq.symm (xwf_n (K := kLongest n (nI g_) ta sk) (k := 1) (by first | (simp only [kLongest, mP, sP, inP, cl, alwP, alwM, cvP, c1, nI_clamp (show g_ < 2 ^ 31 by omega), c3, c4, not_true_eq_false, not_false_eq_true, and_self, and_true, true_and, and_false, false_and, or_true, true_or, or_false, false_or, if_true, if_false, ite_true, ite_false]; done) | (simp [kLongest, mP, sP, inP, cl, alwP, alwM, cvP, c1, nI_clamp (show g_ < 2 ^ 31 by omega), c3, c4]; done) | (simp_all [kLongest, mP, sP, inP, cl, alwP, alwM, cvP]; done)) (by decide))) (congrArg (fun y_ => some (Value.int y_)) (Eq.symm (xv_n (K := kLongest n (nI g_) ta sk) (k := 1) (by first | (simp only [kLongest, mP, sP, inP, cl, alwP, alwM, cvP, c1, nI_clamp (show g_ < 2 ^ 31 by omega), c3, c4, not_true_eq_false, not_false_eq_true, and_self, and_true, true_and, and_false, false_and, or_true, true_or, or_false, false_or, if_true, if_false, ite_true, ite_false]; done) | (simp [kLongest, mP, sP, inP, cl, alwP, alwM, cvP, c1, nI_clamp (show g_ < 2 ^ 31 by omega), c3, c4]; done) | (simp_all [kLongest, mP, sP, inP, cl, alwP, alwM, cvP]; done)) (by decide)))) dX6_longest_50
    · have c3 := bI_1 c3
      obtain ⟨t_, ht_, rfl⟩ := mem_nat hn c3
      refine lv_iload_n hx hb dX6_longest_17 rfl (lv_at hl 3 rfl) ?_
      refine z_callS1 (rest := [.ref (q 0)]) S (c_X6_isSkill sk) qm_X6_85 t_X6_isSkill ⟨Nat.le_of_ble_eq_true rfl, Nat.le_of_ble_eq_true rfl⟩ rfl rfl hN hK hP hD hS hA rfl hl.1 rfl (Nat.le_of_ble_eq_true rfl) dX6_longest_18 ⟨Nat.le_of_ble_eq_true rfl, Nat.le_of_ble_eq_true rfl⟩ (fun H locs hP hD hS => ?_)
      refine lv_if_eq (tgt := 28) hx hb dX6_longest_21 (by decide) (fun c5 => ?_) (fun c5 => ?_)
      · have c5 := bI_0 c5
        refine lv_iconst (v := 1) hx hb dX6_longest_28 (by decide) ?_
        refine z_put (v := .int 1) (ty := .int) (ws2 := moW cI q z hi tx pa ke (upd mr 2 1) hs wr) hx hb hts inTX6 tyX6 tyX6_ok nmX6 hown hK hP hD hS (0) (mo_0) rfl 5 (by decide) (hts _ qf_X6_25) (fun _ h9 => h9) rfl (by decide +kernel) (rfl) (rfl) (Nat.le_of_ble_eq_true rfl) dX6_longest_29 (mo_w0 _ mfl_s2) (fun H locs hP hD hS => ?_)
        refine lv_aload_n hx hb dX6_longest_32 rfl (lv_at hl 0 rfl) ?_
        refine va_get (v := .int 1) hx hb hts inTX6 hown hK hP (0) (mo_0) rfl 5 (by decide) (hts _ qf_X6_25) (fun _ h9 => h9) (congrArg (fun x => some (Value.int x)) (upd_eq rfl)) dX6_longest_33 ?_
        refine lv_if_le (tgt := 43) hx hb dX6_longest_36 (by decide) (fun c6 => absurd c6 (by decide)) (fun c6 => ?_)
        have c6 := z_lt c6
        refine lv_iconst (v := 0) hx hb dX6_longest_39 (by decide) ?_
        refine lv_goto (tgt := 50) hx hb dX6_longest_40 (by decide) ?_
        exact z_iret hx hb hr hlocks hP hD hK hS (Eq.symm (xwf_n (K := kLongest n (nI g_) (nI t_) sk) (k := 1) (by first | (simp only [kLongest, mP, sP, inP, cl, alwP, alwM, cvP, c1, nI_clamp (show g_ < 2 ^ 31 by omega), c3, nI_clamp (show t_ < 2 ^ 31 by omega), c5, c6, not_true_eq_false, not_false_eq_true, and_self, and_true, true_and, and_false, false_and, or_true, true_or, or_false, false_or, if_true, if_false, ite_true, ite_false]; done) | (simp [kLongest, mP, sP, inP, cl, alwP, alwM, cvP, c1, nI_clamp (show g_ < 2 ^ 31 by omega), c3, nI_clamp (show t_ < 2 ^ 31 by omega), c5, c6]; done) | (simp_all [kLongest, mP, sP, inP, cl, alwP, alwM, cvP]; done)) (by decide))) (congrArg (fun y_ => some (Value.int y_)) (Eq.symm (xv_n (K := kLongest n (nI g_) (nI t_) sk) (k := 1) (by first | (simp only [kLongest, mP, sP, inP, cl, alwP, alwM, cvP, c1, nI_clamp (show g_ < 2 ^ 31 by omega), c3, nI_clamp (show t_ < 2 ^ 31 by omega), c5, c6, not_true_eq_false, not_false_eq_true, and_self, and_true, true_and, and_false, false_and, or_true, true_or, or_false, false_or, if_true, if_false, ite_true, ite_false]; done) | (simp [kLongest, mP, sP, inP, cl, alwP, alwM, cvP, c1, nI_clamp (show g_ < 2 ^ 31 by omega), c3, nI_clamp (show t_ < 2 ^ 31 by omega), c5, c6]; done) | (simp_all [kLongest, mP, sP, inP, cl, alwP, alwM, cvP]; done)) (by decide)))) dX6_longest_50
      · have c5 := bI_1 c5
        obtain ⟨k_, hk_, rfl⟩ := skl_nat c5
        refine lv_iconst (v := 0) hx hb dX6_longest_24 (by decide) ?_
        refine lv_goto (tgt := 29) hx hb dX6_longest_25 (by decide) ?_
        refine z_put (v := .int 0) (ty := .int) (ws2 := moW cI q z hi tx pa ke (upd mr 2 0) hs wr) hx hb hts inTX6 tyX6 tyX6_ok nmX6 hown hK hP hD hS (0) (mo_0) rfl 5 (by decide) (hts _ qf_X6_25) (fun _ h9 => h9) rfl (by decide +kernel) (rfl) (rfl) (Nat.le_of_ble_eq_true rfl) dX6_longest_29 (mo_w0 _ mfl_s2) (fun H locs hP hD hS => ?_)
        refine lv_aload_n hx hb dX6_longest_32 rfl (lv_at hl 0 rfl) ?_
        refine va_get (v := .int 0) hx hb hts inTX6 hown hK hP (0) (mo_0) rfl 5 (by decide) (hts _ qf_X6_25) (fun _ h9 => h9) (congrArg (fun x => some (Value.int x)) (upd_eq rfl)) dX6_longest_33 ?_
        refine lv_if_le (tgt := 43) hx hb dX6_longest_36 (by decide) (fun c7 => ?_) (fun c7 => absurd (by decide) c7)
        have c7 := z_nlt c7
        refine lv_aload_n hx hb dX6_longest_43 rfl (lv_at hl 0 rfl) ?_
        refine lv_iload_n hx hb dX6_longest_44 rfl (lv_at hl 1 rfl) ?_
        refine lv_iload_n hx hb dX6_longest_45 rfl (lv_at hl 2 rfl) ?_
        refine lv_iload_n hx hb dX6_longest_46 rfl (lv_at hl 3 rfl) ?_
        refine z_callV1 (rest := []) S (c_X6_longestNow (hB) g_ t_ k_ (show g_ < 8 by omega) (show t_ < 8 by omega) (show k_ < 5 by omega)) qm_X6_163 v_X6_longestNow ⟨Nat.le_of_ble_eq_true rfl, Nat.le_of_ble_eq_true rfl⟩ rfl rfl hN hK hP hD hS hA (0) (mo_0) rfl rfl hl.1 rfl (Nat.le_of_ble_eq_true rfl) dX6_longest_47 ⟨Nat.le_of_ble_eq_true rfl, Nat.le_of_ble_eq_true rfl⟩ (fun H locs hP hD hS => ?_)
        exact z_iret hx hb hr hlocks hP hD hK hS (Eq.symm (xwf_0 (K := kLongest n (nI g_) (nI t_) (nI k_)) (by first | (simp only [kLongest, mP, sP, inP, cl, alwP, alwM, cvP, c1, nI_clamp (show g_ < 2 ^ 31 by omega), c3, nI_clamp (show t_ < 2 ^ 31 by omega), c5, nI_clamp (show k_ < 2 ^ 31 by omega), c7, not_true_eq_false, not_false_eq_true, and_self, and_true, true_and, and_false, false_and, or_true, true_or, or_false, false_or, if_true, if_false, ite_true, ite_false]; done) | (simp [kLongest, mP, sP, inP, cl, alwP, alwM, cvP, c1, nI_clamp (show g_ < 2 ^ 31 by omega), c3, nI_clamp (show t_ < 2 ^ 31 by omega), c5, nI_clamp (show k_ < 2 ^ 31 by omega), c7]; done) | (simp_all [kLongest, mP, sP, inP, cl, alwP, alwM, cvP]; done)))) (congrArg (fun y_ => some (Value.int y_)) (Eq.trans (b := lgM z (cl (nI g_)) (cl (nI t_)) (cl (nI k_)) 600) (by simp only [cl, nI_clamp (show g_ < 2 ^ 31 by omega), nI_clamp (show t_ < 2 ^ 31 by omega), nI_clamp (show k_ < 2 ^ 31 by omega)]) (Eq.symm (xv_0 (K := kLongest n (nI g_) (nI t_) (nI k_)) (by first | (simp only [kLongest, mP, sP, inP, cl, alwP, alwM, cvP, c1, nI_clamp (show g_ < 2 ^ 31 by omega), c3, nI_clamp (show t_ < 2 ^ 31 by omega), c5, nI_clamp (show k_ < 2 ^ 31 by omega), c7, not_true_eq_false, not_false_eq_true, and_self, and_true, true_and, and_false, false_and, or_true, true_or, or_false, false_or, if_true, if_false, ite_true, ite_false]; done) | (simp [kLongest, mP, sP, inP, cl, alwP, alwM, cvP, c1, nI_clamp (show g_ < 2 ^ 31 by omega), c3, nI_clamp (show t_ < 2 ^ 31 by omega), c5, nI_clamp (show k_ < 2 ^ 31 by omega), c7]; done) | (simp_all [kLongest, mP, sP, inP, cl, alwP, alwM, cvP]; done)))))) dX6_longest_50
set_option maxHeartbeats 4000000 in
set_option maxRecDepth 100000 in
theorem c_X6_cheapest {n : Nat} (hn : n ≤ 8) (hz : z 5 = nI n) (hB : hBool z) (mb sk mn : Int32) : zM l D (zT cI cC cM cB cJ) yX6_cheapest cX6_cheapest 4 (some .int) ({ frames := 5, cells := 0, slots := 0, locals := 118 } : Room) [.ref (q 0), .int mb, .int sk, .int mn] (moW cI q z hi tx pa ke mr hs wr) (xwf (kWorth n mb sk mn) (moW cI q z hi tx pa ke (upd mr 2 0) hs wr) (fun k_ => moW cI q z hi tx pa ke (upd mr 2 k_) hs wr)) (some (.int (xv (kWorth n mb sk mn) (chM z (cl mb) (cl sk) mn n)))) 0 0 := by
  refine z_enter (by decide) (Nat.le_of_ble_eq_true rfl) ?_
  intro p e s m below meth c A S hr hlocks hnm hN hA hK hP hD hS ls hl
  obtain ⟨hx, hb, hml, hown, hts⟩ := id S
  have hl : lv_has ls 4 [(0, .ref (q 0)), (1, .int mb), (2, .int sk), (3, .int mn)] := hl
  have hP : va_P D vwCl (moW cI q z hi tx pa ke mr hs wr) s.heap := hP
  have hD : va_D A (moW cI q z hi tx pa ke mr hs wr) := hD
  refine lv_aload_n hx hb dX6_cheapest_0 rfl (lv_at hl 0 rfl) ?_
  refine lv_aload_n hx hb dX6_cheapest_1 rfl (lv_at hl 0 rfl) ?_
  refine lv_iload_n hx hb dX6_cheapest_2 rfl (lv_at hl 1 rfl) ?_
  refine z_callV1 (rest := [.ref (q 0)]) S (c_X6_isMember (n := n) (show n ≤ 8 by omega) (hz) mb) qm_X6_64 v_X6_isMember ⟨Nat.le_of_ble_eq_true rfl, Nat.le_of_ble_eq_true rfl⟩ rfl rfl hN hK hP hD hS hA (0) (mo_0) rfl rfl hl.1 rfl (Nat.le_of_ble_eq_true rfl) dX6_cheapest_3 ⟨Nat.le_of_ble_eq_true rfl, Nat.le_of_ble_eq_true rfl⟩ (fun H locs hP hD hS => ?_)
  refine lv_if_eq (tgt := 16) hx hb dX6_cheapest_6 (by decide) (fun c1 => ?_) (fun c1 => ?_)
  · have c1 := bI_0 c1
    refine lv_iconst (v := 1) hx hb dX6_cheapest_16 (by decide) ?_
    refine lv_goto (tgt := 32) hx hb dX6_cheapest_17 (by decide) ?_
    refine z_put (v := .int 1) (ty := .int) (ws2 := moW cI q z hi tx pa ke (upd mr 2 1) hs wr) hx hb hts inTX6 tyX6 tyX6_ok nmX6 hown hK hP hD hS (0) (mo_0) rfl 5 (by decide) (hts _ qf_X6_25) (fun _ h9 => h9) rfl (by decide +kernel) (rfl) (rfl) (Nat.le_of_ble_eq_true rfl) dX6_cheapest_32 (mo_w0 _ mfl_s2) (fun H locs hP hD hS => ?_)
    refine lv_aload_n hx hb dX6_cheapest_35 rfl (lv_at hl 0 rfl) ?_
    refine va_get (v := .int 1) hx hb hts inTX6 hown hK hP (0) (mo_0) rfl 5 (by decide) (hts _ qf_X6_25) (fun _ h9 => h9) (congrArg (fun x => some (Value.int x)) (upd_eq rfl)) dX6_cheapest_36 ?_
    refine lv_if_le (tgt := 46) hx hb dX6_cheapest_39 (by decide) (fun c2 => absurd c2 (by decide)) (fun c2 => ?_)
    have c2 := z_lt c2
    refine lv_iconst (v := 0) hx hb dX6_cheapest_42 (by decide) ?_
    refine lv_goto (tgt := 53) hx hb dX6_cheapest_43 (by decide) ?_
    exact z_iret hx hb hr hlocks hP hD hK hS (Eq.symm (xwf_n (K := kWorth n mb sk mn) (k := 1) (by first | (simp only [kWorth, mP, sP, inP, cl, alwP, alwM, cvP, c1, c2, not_true_eq_false, not_false_eq_true, and_self, and_true, true_and, and_false, false_and, or_true, true_or, or_false, false_or, if_true, if_false, ite_true, ite_false]; done) | (simp [kWorth, mP, sP, inP, cl, alwP, alwM, cvP, c1, c2]; done) | (simp_all [kWorth, mP, sP, inP, cl, alwP, alwM, cvP]; done)) (by decide))) (congrArg (fun y_ => some (Value.int y_)) (Eq.symm (xv_n (K := kWorth n mb sk mn) (k := 1) (by first | (simp only [kWorth, mP, sP, inP, cl, alwP, alwM, cvP, c1, c2, not_true_eq_false, not_false_eq_true, and_self, and_true, true_and, and_false, false_and, or_true, true_or, or_false, false_or, if_true, if_false, ite_true, ite_false]; done) | (simp [kWorth, mP, sP, inP, cl, alwP, alwM, cvP, c1, c2]; done) | (simp_all [kWorth, mP, sP, inP, cl, alwP, alwM, cvP]; done)) (by decide)))) dX6_cheapest_53
  · have c1 := bI_1 c1
    obtain ⟨j, hj, rfl⟩ := mem_nat hn c1
    refine lv_iload_n hx hb dX6_cheapest_9 rfl (lv_at hl 2 rfl) ?_
    refine z_callS1 (rest := [.ref (q 0)]) S (c_X6_isSkill sk) qm_X6_85 t_X6_isSkill ⟨Nat.le_of_ble_eq_true rfl, Nat.le_of_ble_eq_true rfl⟩ rfl rfl hN hK hP hD hS hA rfl hl.1 rfl (Nat.le_of_ble_eq_true rfl) dX6_cheapest_10 ⟨Nat.le_of_ble_eq_true rfl, Nat.le_of_ble_eq_true rfl⟩ (fun H locs hP hD hS => ?_)
    refine lv_if_ne (tgt := 20) hx hb dX6_cheapest_13 (by decide) (fun c3 => ?_) (fun c3 => ?_)
    · have c3 := bI_1 c3
      obtain ⟨k_, hk_, rfl⟩ := skl_nat c3
      refine lv_iload_n hx hb dX6_cheapest_20 rfl (lv_at hl 3 rfl) ?_
      refine z_callS1 (rest := [.ref (q 0)]) S (c_X6_areMinutes mn) qm_X6_88 t_X6_areMinutes ⟨Nat.le_of_ble_eq_true rfl, Nat.le_of_ble_eq_true rfl⟩ rfl rfl hN hK hP hD hS hA rfl hl.1 rfl (Nat.le_of_ble_eq_true rfl) dX6_cheapest_21 ⟨Nat.le_of_ble_eq_true rfl, Nat.le_of_ble_eq_true rfl⟩ (fun H locs hP hD hS => ?_)
      refine lv_if_eq (tgt := 31) hx hb dX6_cheapest_24 (by decide) (fun c4 => ?_) (fun c4 => ?_)
      · have c4 := bI_0 c4
        refine lv_iconst (v := 2) hx hb dX6_cheapest_31 (by decide) ?_
        refine z_put (v := .int 2) (ty := .int) (ws2 := moW cI q z hi tx pa ke (upd mr 2 2) hs wr) hx hb hts inTX6 tyX6 tyX6_ok nmX6 hown hK hP hD hS (0) (mo_0) rfl 5 (by decide) (hts _ qf_X6_25) (fun _ h9 => h9) rfl (by decide +kernel) (rfl) (rfl) (Nat.le_of_ble_eq_true rfl) dX6_cheapest_32 (mo_w0 _ mfl_s2) (fun H locs hP hD hS => ?_)
        refine lv_aload_n hx hb dX6_cheapest_35 rfl (lv_at hl 0 rfl) ?_
        refine va_get (v := .int 2) hx hb hts inTX6 hown hK hP (0) (mo_0) rfl 5 (by decide) (hts _ qf_X6_25) (fun _ h9 => h9) (congrArg (fun x => some (Value.int x)) (upd_eq rfl)) dX6_cheapest_36 ?_
        refine lv_if_le (tgt := 46) hx hb dX6_cheapest_39 (by decide) (fun c5 => absurd c5 (by decide)) (fun c5 => ?_)
        have c5 := z_lt c5
        refine lv_iconst (v := 0) hx hb dX6_cheapest_42 (by decide) ?_
        refine lv_goto (tgt := 53) hx hb dX6_cheapest_43 (by decide) ?_
        exact z_iret hx hb hr hlocks hP hD hK hS (Eq.symm (xwf_n (K := kWorth n (nI j) (nI k_) mn) (k := 2) (by first | (simp only [kWorth, mP, sP, inP, cl, alwP, alwM, cvP, c1, nI_clamp (show j < 2 ^ 31 by omega), c3, nI_clamp (show k_ < 2 ^ 31 by omega), c4, c5, not_true_eq_false, not_false_eq_true, and_self, and_true, true_and, and_false, false_and, or_true, true_or, or_false, false_or, if_true, if_false, ite_true, ite_false]; done) | (simp [kWorth, mP, sP, inP, cl, alwP, alwM, cvP, c1, nI_clamp (show j < 2 ^ 31 by omega), c3, nI_clamp (show k_ < 2 ^ 31 by omega), c4, c5]; done) | (simp_all [kWorth, mP, sP, inP, cl, alwP, alwM, cvP]; done)) (by decide))) (congrArg (fun y_ => some (Value.int y_)) (Eq.symm (xv_n (K := kWorth n (nI j) (nI k_) mn) (k := 2) (by first | (simp only [kWorth, mP, sP, inP, cl, alwP, alwM, cvP, c1, nI_clamp (show j < 2 ^ 31 by omega), c3, nI_clamp (show k_ < 2 ^ 31 by omega), c4, c5, not_true_eq_false, not_false_eq_true, and_self, and_true, true_and, and_false, false_and, or_true, true_or, or_false, false_or, if_true, if_false, ite_true, ite_false]; done) | (simp [kWorth, mP, sP, inP, cl, alwP, alwM, cvP, c1, nI_clamp (show j < 2 ^ 31 by omega), c3, nI_clamp (show k_ < 2 ^ 31 by omega), c4, c5]; done) | (simp_all [kWorth, mP, sP, inP, cl, alwP, alwM, cvP]; done)) (by decide)))) dX6_cheapest_53
      · have c4 := bI_1 c4
        refine lv_iconst (v := 0) hx hb dX6_cheapest_27 (by decide) ?_
        refine lv_goto (tgt := 32) hx hb dX6_cheapest_28 (by decide) ?_
        refine z_put (v := .int 0) (ty := .int) (ws2 := moW cI q z hi tx pa ke (upd mr 2 0) hs wr) hx hb hts inTX6 tyX6 tyX6_ok nmX6 hown hK hP hD hS (0) (mo_0) rfl 5 (by decide) (hts _ qf_X6_25) (fun _ h9 => h9) rfl (by decide +kernel) (rfl) (rfl) (Nat.le_of_ble_eq_true rfl) dX6_cheapest_32 (mo_w0 _ mfl_s2) (fun H locs hP hD hS => ?_)
        refine lv_aload_n hx hb dX6_cheapest_35 rfl (lv_at hl 0 rfl) ?_
        refine va_get (v := .int 0) hx hb hts inTX6 hown hK hP (0) (mo_0) rfl 5 (by decide) (hts _ qf_X6_25) (fun _ h9 => h9) (congrArg (fun x => some (Value.int x)) (upd_eq rfl)) dX6_cheapest_36 ?_
        refine lv_if_le (tgt := 46) hx hb dX6_cheapest_39 (by decide) (fun c6 => ?_) (fun c6 => absurd (by decide) c6)
        have c6 := z_nlt c6
        refine lv_aload_n hx hb dX6_cheapest_46 rfl (lv_at hl 0 rfl) ?_
        refine lv_iload_n hx hb dX6_cheapest_47 rfl (lv_at hl 1 rfl) ?_
        refine lv_iload_n hx hb dX6_cheapest_48 rfl (lv_at hl 2 rfl) ?_
        refine lv_iload_n hx hb dX6_cheapest_49 rfl (lv_at hl 3 rfl) ?_
        refine z_callV1 (rest := []) S (c_X6_cheapestNow (n := n) (show n ≤ 8 by omega) (hz) (hB) j k_ (show j < 8 by omega) (show k_ < 5 by omega) mn) qm_X6_166 v_X6_cheapestNow ⟨Nat.le_of_ble_eq_true rfl, Nat.le_of_ble_eq_true rfl⟩ rfl rfl hN hK hP hD hS hA (0) (mo_0) rfl rfl hl.1 rfl (Nat.le_of_ble_eq_true rfl) dX6_cheapest_50 ⟨Nat.le_of_ble_eq_true rfl, Nat.le_of_ble_eq_true rfl⟩ (fun H locs hP hD hS => ?_)
        exact z_iret hx hb hr hlocks hP hD hK hS (Eq.symm (xwf_0 (K := kWorth n (nI j) (nI k_) mn) (by first | (simp only [kWorth, mP, sP, inP, cl, alwP, alwM, cvP, c1, nI_clamp (show j < 2 ^ 31 by omega), c3, nI_clamp (show k_ < 2 ^ 31 by omega), c4, c6, not_true_eq_false, not_false_eq_true, and_self, and_true, true_and, and_false, false_and, or_true, true_or, or_false, false_or, if_true, if_false, ite_true, ite_false]; done) | (simp [kWorth, mP, sP, inP, cl, alwP, alwM, cvP, c1, nI_clamp (show j < 2 ^ 31 by omega), c3, nI_clamp (show k_ < 2 ^ 31 by omega), c4, c6]; done) | (simp_all [kWorth, mP, sP, inP, cl, alwP, alwM, cvP]; done)))) (congrArg (fun y_ => some (Value.int y_)) (Eq.trans (b := chM z (cl (nI j)) (cl (nI k_)) mn n) (by simp only [cl, nI_clamp (show j < 2 ^ 31 by omega), nI_clamp (show k_ < 2 ^ 31 by omega)]) (Eq.symm (xv_0 (K := kWorth n (nI j) (nI k_) mn) (by first | (simp only [kWorth, mP, sP, inP, cl, alwP, alwM, cvP, c1, nI_clamp (show j < 2 ^ 31 by omega), c3, nI_clamp (show k_ < 2 ^ 31 by omega), c4, c6, not_true_eq_false, not_false_eq_true, and_self, and_true, true_and, and_false, false_and, or_true, true_or, or_false, false_or, if_true, if_false, ite_true, ite_false]; done) | (simp [kWorth, mP, sP, inP, cl, alwP, alwM, cvP, c1, nI_clamp (show j < 2 ^ 31 by omega), c3, nI_clamp (show k_ < 2 ^ 31 by omega), c4, c6]; done) | (simp_all [kWorth, mP, sP, inP, cl, alwP, alwM, cvP]; done)))))) dX6_cheapest_53
    · have c3 := bI_0 c3
      refine lv_iconst (v := 1) hx hb dX6_cheapest_16 (by decide) ?_
      refine lv_goto (tgt := 32) hx hb dX6_cheapest_17 (by decide) ?_
      refine z_put (v := .int 1) (ty := .int) (ws2 := moW cI q z hi tx pa ke (upd mr 2 1) hs wr) hx hb hts inTX6 tyX6 tyX6_ok nmX6 hown hK hP hD hS (0) (mo_0) rfl 5 (by decide) (hts _ qf_X6_25) (fun _ h9 => h9) rfl (by decide +kernel) (rfl) (rfl) (Nat.le_of_ble_eq_true rfl) dX6_cheapest_32 (mo_w0 _ mfl_s2) (fun H locs hP hD hS => ?_)
      refine lv_aload_n hx hb dX6_cheapest_35 rfl (lv_at hl 0 rfl) ?_
      refine va_get (v := .int 1) hx hb hts inTX6 hown hK hP (0) (mo_0) rfl 5 (by decide) (hts _ qf_X6_25) (fun _ h9 => h9) (congrArg (fun x => some (Value.int x)) (upd_eq rfl)) dX6_cheapest_36 ?_
      refine lv_if_le (tgt := 46) hx hb dX6_cheapest_39 (by decide) (fun c7 => absurd c7 (by decide)) (fun c7 => ?_)
      have c7 := z_lt c7
      refine lv_iconst (v := 0) hx hb dX6_cheapest_42 (by decide) ?_
      refine lv_goto (tgt := 53) hx hb dX6_cheapest_43 (by decide) ?_
      exact z_iret hx hb hr hlocks hP hD hK hS (Eq.symm (xwf_n (K := kWorth n (nI j) sk mn) (k := 1) (by first | (simp only [kWorth, mP, sP, inP, cl, alwP, alwM, cvP, c1, nI_clamp (show j < 2 ^ 31 by omega), c3, c7, not_true_eq_false, not_false_eq_true, and_self, and_true, true_and, and_false, false_and, or_true, true_or, or_false, false_or, if_true, if_false, ite_true, ite_false]; done) | (simp [kWorth, mP, sP, inP, cl, alwP, alwM, cvP, c1, nI_clamp (show j < 2 ^ 31 by omega), c3, c7]; done) | (simp_all [kWorth, mP, sP, inP, cl, alwP, alwM, cvP]; done)) (by decide))) (congrArg (fun y_ => some (Value.int y_)) (Eq.symm (xv_n (K := kWorth n (nI j) sk mn) (k := 1) (by first | (simp only [kWorth, mP, sP, inP, cl, alwP, alwM, cvP, c1, nI_clamp (show j < 2 ^ 31 by omega), c3, c7, not_true_eq_false, not_false_eq_true, and_self, and_true, true_and, and_false, false_and, or_true, true_or, or_false, false_or, if_true, if_false, ite_true, ite_false]; done) | (simp [kWorth, mP, sP, inP, cl, alwP, alwM, cvP, c1, nI_clamp (show j < 2 ^ 31 by omega), c3, c7]; done) | (simp_all [kWorth, mP, sP, inP, cl, alwP, alwM, cvP]; done)) (by decide)))) dX6_cheapest_53
set_option maxHeartbeats 4000000 in
set_option maxRecDepth 100000 in
theorem c_X6_decayIn {n : Nat} (hn : n ≤ 8) (hz : z 5 = nI n) (hB : hBool z) (mb wk : Int32) : zM l D (zT cI cC cM cB cJ) yX6_decayIn cX6_decayIn 3 (some .int) ({ frames := 4, cells := 0, slots := 0, locals := 97 } : Room) [.ref (q 0), .int mb, .int wk] (moW cI q z hi tx pa ke mr hs wr) (xwf (kDecay n mb wk) (moW cI q z hi tx pa (kpF ke z 142) (upd mr 2 0) hs wr) (fun k_ => moW cI q z hi tx pa ke (upd mr 2 k_) hs wr)) (some (.int (xv (kDecay n mb wk) (dcM z n (cl mb) (cl wk))))) 0 0 := by
  refine z_enter (by decide) (Nat.le_of_ble_eq_true rfl) ?_
  intro p e s m below meth c A S hr hlocks hnm hN hA hK hP hD hS ls hl
  obtain ⟨hx, hb, hml, hown, hts⟩ := id S
  have hl : lv_has ls 3 [(0, .ref (q 0)), (1, .int mb), (2, .int wk)] := hl
  have hP : va_P D vwCl (moW cI q z hi tx pa ke mr hs wr) s.heap := hP
  have hD : va_D A (moW cI q z hi tx pa ke mr hs wr) := hD
  refine lv_aload_n hx hb dX6_decayIn_0 rfl (lv_at hl 0 rfl) ?_
  refine lv_aload_n hx hb dX6_decayIn_1 rfl (lv_at hl 0 rfl) ?_
  refine lv_iload_n hx hb dX6_decayIn_2 rfl (lv_at hl 1 rfl) ?_
  refine z_callV1 (rest := [.ref (q 0)]) S (c_X6_isMember (n := n) (show n ≤ 8 by omega) (hz) mb) qm_X6_64 v_X6_isMember ⟨Nat.le_of_ble_eq_true rfl, Nat.le_of_ble_eq_true rfl⟩ rfl rfl hN hK hP hD hS hA (0) (mo_0) rfl rfl hl.1 rfl (Nat.le_of_ble_eq_true rfl) dX6_decayIn_3 ⟨Nat.le_of_ble_eq_true rfl, Nat.le_of_ble_eq_true rfl⟩ (fun H locs hP hD hS => ?_)
  refine lv_if_ne (tgt := 13) hx hb dX6_decayIn_6 (by decide) (fun c1 => ?_) (fun c1 => ?_)
  · have c1 := bI_1 c1
    obtain ⟨j, hj, rfl⟩ := mem_nat hn c1
    refine lv_iload_n hx hb dX6_decayIn_13 rfl (lv_at hl 2 rfl) ?_
    refine lv_iconst (v := 0) hx hb dX6_decayIn_14 (by decide) ?_
    refine lv_bipush (v := 100) hx hb dX6_decayIn_15 (by decide) ?_
    refine z_callS1 (rest := [.ref (q 0)]) S (c_X6_within wk 0 100) qm_X6_32 t_X6_within ⟨Nat.le_of_ble_eq_true rfl, Nat.le_of_ble_eq_true rfl⟩ rfl rfl hN hK hP hD hS hA rfl hl.1 rfl (Nat.le_of_ble_eq_true rfl) dX6_decayIn_17 ⟨Nat.le_of_ble_eq_true rfl, Nat.le_of_ble_eq_true rfl⟩ (fun H locs hP hD hS => ?_)
    refine lv_if_eq (tgt := 27) hx hb dX6_decayIn_20 (by decide) (fun c2 => ?_) (fun c2 => ?_)
    · have c2 := bI_0 c2
      refine lv_iconst (v := 2) hx hb dX6_decayIn_27 (by decide) ?_
      refine z_put (v := .int 2) (ty := .int) (ws2 := moW cI q z hi tx pa ke (upd mr 2 2) hs wr) hx hb hts inTX6 tyX6 tyX6_ok nmX6 hown hK hP hD hS (0) (mo_0) rfl 5 (by decide) (hts _ qf_X6_25) (fun _ h9 => h9) rfl (by decide +kernel) (rfl) (rfl) (Nat.le_of_ble_eq_true rfl) dX6_decayIn_28 (mo_w0 _ mfl_s2) (fun H locs hP hD hS => ?_)
      refine lv_aload_n hx hb dX6_decayIn_31 rfl (lv_at hl 0 rfl) ?_
      refine va_get (v := .int 2) hx hb hts inTX6 hown hK hP (0) (mo_0) rfl 5 (by decide) (hts _ qf_X6_25) (fun _ h9 => h9) (congrArg (fun x => some (Value.int x)) (upd_eq rfl)) dX6_decayIn_32 ?_
      refine lv_if_le (tgt := 42) hx hb dX6_decayIn_35 (by decide) (fun c3 => absurd c3 (by decide)) (fun c3 => ?_)
      have c3 := z_lt c3
      refine lv_iconst (v := 0) hx hb dX6_decayIn_38 (by decide) ?_
      refine lv_goto (tgt := 48) hx hb dX6_decayIn_39 (by decide) ?_
      exact z_iret hx hb hr hlocks hP hD hK hS (Eq.symm (xwf_n (K := kDecay n (nI j) wk) (k := 2) (by first | (simp only [kDecay, mP, sP, inP, cl, alwP, alwM, cvP, c1, nI_clamp (show j < 2 ^ 31 by omega), c2, c3, not_true_eq_false, not_false_eq_true, and_self, and_true, true_and, and_false, false_and, or_true, true_or, or_false, false_or, if_true, if_false, ite_true, ite_false]; done) | (simp [kDecay, mP, sP, inP, cl, alwP, alwM, cvP, c1, nI_clamp (show j < 2 ^ 31 by omega), c2, c3]; done) | (simp_all [kDecay, mP, sP, inP, cl, alwP, alwM, cvP]; done)) (by decide))) (congrArg (fun y_ => some (Value.int y_)) (Eq.symm (xv_n (K := kDecay n (nI j) wk) (k := 2) (by first | (simp only [kDecay, mP, sP, inP, cl, alwP, alwM, cvP, c1, nI_clamp (show j < 2 ^ 31 by omega), c2, c3, not_true_eq_false, not_false_eq_true, and_self, and_true, true_and, and_false, false_and, or_true, true_or, or_false, false_or, if_true, if_false, ite_true, ite_false]; done) | (simp [kDecay, mP, sP, inP, cl, alwP, alwM, cvP, c1, nI_clamp (show j < 2 ^ 31 by omega), c2, c3]; done) | (simp_all [kDecay, mP, sP, inP, cl, alwP, alwM, cvP]; done)) (by decide)))) dX6_decayIn_48
    · have c2 := bI_1 c2
      obtain ⟨v_, hv_, rfl⟩ := w100_nat c2
      refine lv_iconst (v := 0) hx hb dX6_decayIn_23 (by decide) ?_
      refine lv_goto (tgt := 28) hx hb dX6_decayIn_24 (by decide) ?_
      refine z_put (v := .int 0) (ty := .int) (ws2 := moW cI q z hi tx pa ke (upd mr 2 0) hs wr) hx hb hts inTX6 tyX6 tyX6_ok nmX6 hown hK hP hD hS (0) (mo_0) rfl 5 (by decide) (hts _ qf_X6_25) (fun _ h9 => h9) rfl (by decide +kernel) (rfl) (rfl) (Nat.le_of_ble_eq_true rfl) dX6_decayIn_28 (mo_w0 _ mfl_s2) (fun H locs hP hD hS => ?_)
      refine lv_aload_n hx hb dX6_decayIn_31 rfl (lv_at hl 0 rfl) ?_
      refine va_get (v := .int 0) hx hb hts inTX6 hown hK hP (0) (mo_0) rfl 5 (by decide) (hts _ qf_X6_25) (fun _ h9 => h9) (congrArg (fun x => some (Value.int x)) (upd_eq rfl)) dX6_decayIn_32 ?_
      refine lv_if_le (tgt := 42) hx hb dX6_decayIn_35 (by decide) (fun c4 => ?_) (fun c4 => absurd (by decide) c4)
      have c4 := z_nlt c4
      refine lv_aload_n hx hb dX6_decayIn_42 rfl (lv_at hl 0 rfl) ?_
      refine lv_iload_n hx hb dX6_decayIn_43 rfl (lv_at hl 1 rfl) ?_
      refine lv_iload_n hx hb dX6_decayIn_44 rfl (lv_at hl 2 rfl) ?_
      refine z_callV1 (rest := []) S (c_X6_decaysThen (n := n) (show n ≤ 8 by omega) (hz) (hB) j (show j < 8 by omega) (wk := v_) (by omega)) qm_X6_169 v_X6_decaysThen ⟨Nat.le_of_ble_eq_true rfl, Nat.le_of_ble_eq_true rfl⟩ rfl rfl hN hK hP hD hS hA (0) (mo_0) rfl rfl hl.1 rfl (Nat.le_of_ble_eq_true rfl) dX6_decayIn_45 ⟨Nat.le_of_ble_eq_true rfl, Nat.le_of_ble_eq_true rfl⟩ (fun H locs hP hD hS => ?_)
      exact z_iret hx hb hr hlocks hP hD hK hS (Eq.symm (xwf_0 (K := kDecay n (nI j) (nI v_)) (by first | (simp only [kDecay, mP, sP, inP, cl, alwP, alwM, cvP, c1, nI_clamp (show j < 2 ^ 31 by omega), c2, nI_clamp (show v_ < 2 ^ 31 by omega), c4, not_true_eq_false, not_false_eq_true, and_self, and_true, true_and, and_false, false_and, or_true, true_or, or_false, false_or, if_true, if_false, ite_true, ite_false]; done) | (simp [kDecay, mP, sP, inP, cl, alwP, alwM, cvP, c1, nI_clamp (show j < 2 ^ 31 by omega), c2, nI_clamp (show v_ < 2 ^ 31 by omega), c4]; done) | (simp_all [kDecay, mP, sP, inP, cl, alwP, alwM, cvP]; done)))) (congrArg (fun y_ => some (Value.int y_)) (Eq.trans (b := dcM z n (cl (nI j)) (cl (nI v_))) (by simp only [cl, nI_clamp (show j < 2 ^ 31 by omega), nI_clamp (show v_ < 2 ^ 31 by omega)]) (Eq.symm (xv_0 (K := kDecay n (nI j) (nI v_)) (by first | (simp only [kDecay, mP, sP, inP, cl, alwP, alwM, cvP, c1, nI_clamp (show j < 2 ^ 31 by omega), c2, nI_clamp (show v_ < 2 ^ 31 by omega), c4, not_true_eq_false, not_false_eq_true, and_self, and_true, true_and, and_false, false_and, or_true, true_or, or_false, false_or, if_true, if_false, ite_true, ite_false]; done) | (simp [kDecay, mP, sP, inP, cl, alwP, alwM, cvP, c1, nI_clamp (show j < 2 ^ 31 by omega), c2, nI_clamp (show v_ < 2 ^ 31 by omega), c4]; done) | (simp_all [kDecay, mP, sP, inP, cl, alwP, alwM, cvP]; done)))))) dX6_decayIn_48
  · have c1 := bI_0 c1
    refine lv_iconst (v := 1) hx hb dX6_decayIn_9 (by decide) ?_
    refine lv_goto (tgt := 28) hx hb dX6_decayIn_10 (by decide) ?_
    refine z_put (v := .int 1) (ty := .int) (ws2 := moW cI q z hi tx pa ke (upd mr 2 1) hs wr) hx hb hts inTX6 tyX6 tyX6_ok nmX6 hown hK hP hD hS (0) (mo_0) rfl 5 (by decide) (hts _ qf_X6_25) (fun _ h9 => h9) rfl (by decide +kernel) (rfl) (rfl) (Nat.le_of_ble_eq_true rfl) dX6_decayIn_28 (mo_w0 _ mfl_s2) (fun H locs hP hD hS => ?_)
    refine lv_aload_n hx hb dX6_decayIn_31 rfl (lv_at hl 0 rfl) ?_
    refine va_get (v := .int 1) hx hb hts inTX6 hown hK hP (0) (mo_0) rfl 5 (by decide) (hts _ qf_X6_25) (fun _ h9 => h9) (congrArg (fun x => some (Value.int x)) (upd_eq rfl)) dX6_decayIn_32 ?_
    refine lv_if_le (tgt := 42) hx hb dX6_decayIn_35 (by decide) (fun c5 => absurd c5 (by decide)) (fun c5 => ?_)
    have c5 := z_lt c5
    refine lv_iconst (v := 0) hx hb dX6_decayIn_38 (by decide) ?_
    refine lv_goto (tgt := 48) hx hb dX6_decayIn_39 (by decide) ?_
    exact z_iret hx hb hr hlocks hP hD hK hS (Eq.symm (xwf_n (K := kDecay n mb wk) (k := 1) (by first | (simp only [kDecay, mP, sP, inP, cl, alwP, alwM, cvP, c1, c5, not_true_eq_false, not_false_eq_true, and_self, and_true, true_and, and_false, false_and, or_true, true_or, or_false, false_or, if_true, if_false, ite_true, ite_false]; done) | (simp [kDecay, mP, sP, inP, cl, alwP, alwM, cvP, c1, c5]; done) | (simp_all [kDecay, mP, sP, inP, cl, alwP, alwM, cvP]; done)) (by decide))) (congrArg (fun y_ => some (Value.int y_)) (Eq.symm (xv_n (K := kDecay n mb wk) (k := 1) (by first | (simp only [kDecay, mP, sP, inP, cl, alwP, alwM, cvP, c1, c5, not_true_eq_false, not_false_eq_true, and_self, and_true, true_and, and_false, false_and, or_true, true_or, or_false, false_or, if_true, if_false, ite_true, ite_false]; done) | (simp [kDecay, mP, sP, inP, cl, alwP, alwM, cvP, c1, c5]; done) | (simp_all [kDecay, mP, sP, inP, cl, alwP, alwM, cvP]; done)) (by decide)))) dX6_decayIn_48
set_option maxHeartbeats 4000000 in
set_option maxRecDepth 100000 in
theorem c_X6_votesNeeded_a {n : Nat} (hn : n ≤ 8) (hz : z 5 = nI n) (hz2 : z 10 = -1) : zM l D (zT cI cC cM cB cJ) yX6_votesNeeded cX6_votesNeeded 1 (some .int) ({ frames := 4, cells := 0, slots := 0, locals := 85 } : Room) [.ref (q 0)] (moW cI q z hi tx pa ke mr hs wr) (moW cI q z hi tx pa ke (upd mr 2 0) hs wr) (some (.int (misP z n))) 0 0 := by
  refine z_enter (by decide) (Nat.le_of_ble_eq_true rfl) ?_
  intro p e s m below meth c A S hr hlocks hnm hN hA hK hP hD hS ls hl
  obtain ⟨hx, hb, hml, hown, hts⟩ := id S
  have hl : lv_has ls 1 [(0, .ref (q 0))] := hl
  have hP : va_P D vwCl (moW cI q z hi tx pa ke mr hs wr) s.heap := hP
  have hD : va_D A (moW cI q z hi tx pa ke mr hs wr) := hD
  refine lv_aload_n hx hb dX6_votesNeeded_0 rfl (lv_at hl 0 rfl) ?_
  refine lv_iconst (v := 0) hx hb dX6_votesNeeded_1 (by decide) ?_
  refine z_put (v := .int 0) (ty := .int) (ws2 := moW cI q z hi tx pa ke (upd mr 2 0) hs wr) hx hb hts inTX6 tyX6 tyX6_ok nmX6 hown hK hP hD hS (0) (mo_0) rfl 5 (by decide) (hts _ qf_X6_25) (fun _ h9 => h9) rfl (by decide +kernel) (rfl) (rfl) (Nat.le_of_ble_eq_true rfl) dX6_votesNeeded_2 (mo_w0 _ mfl_s2) (fun H locs hP hD hS => ?_)
  refine lv_aload_n hx hb dX6_votesNeeded_5 rfl (lv_at hl 0 rfl) ?_
  refine z_callV1 (rest := []) S (c_X6_needed_a (n := n) (hz2)) qm_X6_172 v_X6_needed ⟨Nat.le_of_ble_eq_true rfl, Nat.le_of_ble_eq_true rfl⟩ rfl rfl hN hK hP hD hS hA (0) (mo_0) rfl rfl hl.1 rfl (Nat.le_of_ble_eq_true rfl) dX6_votesNeeded_6 ⟨Nat.le_of_ble_eq_true rfl, Nat.le_of_ble_eq_true rfl⟩ (fun H locs hP hD hS => ?_)
  exact z_iret hx hb hr hlocks hP hD hK hS (rfl) (by first | rfl | (simp only [minP, maxP, not_true_eq_false, not_false_eq_true, and_self, and_true, true_and, and_false, false_and, or_true, true_or, or_false, false_or, if_true, if_false, ite_true, ite_false]; done) | (simp [minP, maxP]; done) | (simp_all [minP, maxP]; done)) dX6_votesNeeded_9
set_option maxHeartbeats 4000000 in
set_option maxRecDepth 100000 in
theorem c_X6_votesNeeded_b {n : Nat} (hn : n ≤ 8) (hz : z 5 = nI n) (hB : hBool z) {d : Nat} (hd : d < n) (hz2 : z 10 = nI d) (hd1 : z (14 + 16 * d) = 1) (h12 : oneP (z 12) 8 = cntB z 1 n) : zM l D (zT cI cC cM cB cJ) yX6_votesNeeded cX6_votesNeeded 1 (some .int) ({ frames := 4, cells := 0, slots := 0, locals := 85 } : Room) [.ref (q 0)] (moW cI q z hi tx pa ke mr hs wr) (moW cI q z hi tx pa ke (upd mr 2 0) hs wr) (some (.int (misP z n))) 0 0 := by
  refine z_enter (by decide) (Nat.le_of_ble_eq_true rfl) ?_
  intro p e s m below meth c A S hr hlocks hnm hN hA hK hP hD hS ls hl
  obtain ⟨hx, hb, hml, hown, hts⟩ := id S
  have hl : lv_has ls 1 [(0, .ref (q 0))] := hl
  have hP : va_P D vwCl (moW cI q z hi tx pa ke mr hs wr) s.heap := hP
  have hD : va_D A (moW cI q z hi tx pa ke mr hs wr) := hD
  refine lv_aload_n hx hb dX6_votesNeeded_0 rfl (lv_at hl 0 rfl) ?_
  refine lv_iconst (v := 0) hx hb dX6_votesNeeded_1 (by decide) ?_
  refine z_put (v := .int 0) (ty := .int) (ws2 := moW cI q z hi tx pa ke (upd mr 2 0) hs wr) hx hb hts inTX6 tyX6 tyX6_ok nmX6 hown hK hP hD hS (0) (mo_0) rfl 5 (by decide) (hts _ qf_X6_25) (fun _ h9 => h9) rfl (by decide +kernel) (rfl) (rfl) (Nat.le_of_ble_eq_true rfl) dX6_votesNeeded_2 (mo_w0 _ mfl_s2) (fun H locs hP hD hS => ?_)
  refine lv_aload_n hx hb dX6_votesNeeded_5 rfl (lv_at hl 0 rfl) ?_
  refine z_callV1 (rest := []) S (c_X6_needed_b (n := n) (show n ≤ 8 by omega) (hz) (hB) (d := d) (show d < n by omega) (hz2) hd1 h12) qm_X6_172 v_X6_needed ⟨Nat.le_of_ble_eq_true rfl, Nat.le_of_ble_eq_true rfl⟩ rfl rfl hN hK hP hD hS hA (0) (mo_0) rfl rfl hl.1 rfl (Nat.le_of_ble_eq_true rfl) dX6_votesNeeded_6 ⟨Nat.le_of_ble_eq_true rfl, Nat.le_of_ble_eq_true rfl⟩ (fun H locs hP hD hS => ?_)
  exact z_iret hx hb hr hlocks hP hD hK hS (rfl) (by first | rfl | (simp only [minP, maxP, not_true_eq_false, not_false_eq_true, and_self, and_true, true_and, and_false, false_and, or_true, true_or, or_false, false_or, if_true, if_false, ite_true, ite_false]; done) | (simp [minP, maxP]; done) | (simp_all [minP, maxP]; done)) dX6_votesNeeded_9
set_option maxHeartbeats 4000000 in
set_option maxRecDepth 100000 in
theorem c_X6_ripest {n : Nat} (hn : n ≤ 8) (hz : z 5 = nI n) (hB : hBool z) (sk : Int32) : zM l D (zT cI cC cM cB cJ) yX6_ripest cX6_ripest 2 (some .int) ({ frames := 3, cells := 0, slots := 0, locals := 67 } : Room) [.ref (q 0), .int sk] (moW cI q z hi tx pa ke mr hs wr) (xwf (kRipest sk) (moW cI q z hi tx pa ke (upd mr 2 0) hs wr) (fun k_ => moW cI q z hi tx pa ke (upd mr 2 k_) hs wr)) (some (.int (xv (kRipest sk) (mpP z (cl sk) n)))) 0 0 := by
  refine z_enter (by decide) (Nat.le_of_ble_eq_true rfl) ?_
  intro p e s m below meth c A S hr hlocks hnm hN hA hK hP hD hS ls hl
  obtain ⟨hx, hb, hml, hown, hts⟩ := id S
  have hl : lv_has ls 2 [(0, .ref (q 0)), (1, .int sk)] := hl
  have hP : va_P D vwCl (moW cI q z hi tx pa ke mr hs wr) s.heap := hP
  have hD : va_D A (moW cI q z hi tx pa ke mr hs wr) := hD
  refine lv_aload_n hx hb dX6_ripest_0 rfl (lv_at hl 0 rfl) ?_
  refine lv_iload_n hx hb dX6_ripest_1 rfl (lv_at hl 1 rfl) ?_
  refine z_callS1 (rest := [.ref (q 0)]) S (c_X6_isSkill sk) qm_X6_85 t_X6_isSkill ⟨Nat.le_of_ble_eq_true rfl, Nat.le_of_ble_eq_true rfl⟩ rfl rfl hN hK hP hD hS hA rfl hl.1 rfl (Nat.le_of_ble_eq_true rfl) dX6_ripest_2 ⟨Nat.le_of_ble_eq_true rfl, Nat.le_of_ble_eq_true rfl⟩ (fun H locs hP hD hS => ?_)
  refine lv_if_eq (tgt := 12) hx hb dX6_ripest_5 (by decide) (fun c1 => ?_) (fun c1 => ?_)
  · have c1 := bI_0 c1
    refine lv_iconst (v := 1) hx hb dX6_ripest_12 (by decide) ?_
    refine z_put (v := .int 1) (ty := .int) (ws2 := moW cI q z hi tx pa ke (upd mr 2 1) hs wr) hx hb hts inTX6 tyX6 tyX6_ok nmX6 hown hK hP hD hS (0) (mo_0) rfl 5 (by decide) (hts _ qf_X6_25) (fun _ h9 => h9) rfl (by decide +kernel) (rfl) (rfl) (Nat.le_of_ble_eq_true rfl) dX6_ripest_13 (mo_w0 _ mfl_s2) (fun H locs hP hD hS => ?_)
    refine lv_aload_n hx hb dX6_ripest_16 rfl (lv_at hl 0 rfl) ?_
    refine va_get (v := .int 1) hx hb hts inTX6 hown hK hP (0) (mo_0) rfl 5 (by decide) (hts _ qf_X6_25) (fun _ h9 => h9) (congrArg (fun x => some (Value.int x)) (upd_eq rfl)) dX6_ripest_17 ?_
    refine lv_if_le (tgt := 27) hx hb dX6_ripest_20 (by decide) (fun c2 => absurd c2 (by decide)) (fun c2 => ?_)
    have c2 := z_lt c2
    refine lv_iconst (v := 0) hx hb dX6_ripest_23 (by decide) ?_
    refine lv_goto (tgt := 32) hx hb dX6_ripest_24 (by decide) ?_
    exact z_iret hx hb hr hlocks hP hD hK hS (Eq.symm (xwf_n (K := kRipest sk) (k := 1) (by first | (simp only [kRipest, mP, sP, inP, cl, alwP, alwM, cvP, c1, c2, not_true_eq_false, not_false_eq_true, and_self, and_true, true_and, and_false, false_and, or_true, true_or, or_false, false_or, if_true, if_false, ite_true, ite_false]; done) | (simp [kRipest, mP, sP, inP, cl, alwP, alwM, cvP, c1, c2]; done) | (simp_all [kRipest, mP, sP, inP, cl, alwP, alwM, cvP]; done)) (by decide))) (congrArg (fun y_ => some (Value.int y_)) (Eq.symm (xv_n (K := kRipest sk) (k := 1) (by first | (simp only [kRipest, mP, sP, inP, cl, alwP, alwM, cvP, c1, c2, not_true_eq_false, not_false_eq_true, and_self, and_true, true_and, and_false, false_and, or_true, true_or, or_false, false_or, if_true, if_false, ite_true, ite_false]; done) | (simp [kRipest, mP, sP, inP, cl, alwP, alwM, cvP, c1, c2]; done) | (simp_all [kRipest, mP, sP, inP, cl, alwP, alwM, cvP]; done)) (by decide)))) dX6_ripest_32
  · have c1 := bI_1 c1
    obtain ⟨k_, hk_, rfl⟩ := skl_nat c1
    refine lv_iconst (v := 0) hx hb dX6_ripest_8 (by decide) ?_
    refine lv_goto (tgt := 13) hx hb dX6_ripest_9 (by decide) ?_
    refine z_put (v := .int 0) (ty := .int) (ws2 := moW cI q z hi tx pa ke (upd mr 2 0) hs wr) hx hb hts inTX6 tyX6 tyX6_ok nmX6 hown hK hP hD hS (0) (mo_0) rfl 5 (by decide) (hts _ qf_X6_25) (fun _ h9 => h9) rfl (by decide +kernel) (rfl) (rfl) (Nat.le_of_ble_eq_true rfl) dX6_ripest_13 (mo_w0 _ mfl_s2) (fun H locs hP hD hS => ?_)
    refine lv_aload_n hx hb dX6_ripest_16 rfl (lv_at hl 0 rfl) ?_
    refine va_get (v := .int 0) hx hb hts inTX6 hown hK hP (0) (mo_0) rfl 5 (by decide) (hts _ qf_X6_25) (fun _ h9 => h9) (congrArg (fun x => some (Value.int x)) (upd_eq rfl)) dX6_ripest_17 ?_
    refine lv_if_le (tgt := 27) hx hb dX6_ripest_20 (by decide) (fun c3 => ?_) (fun c3 => absurd (by decide) c3)
    have c3 := z_nlt c3
    refine lv_aload_n hx hb dX6_ripest_27 rfl (lv_at hl 0 rfl) ?_
    refine lv_iload_n hx hb dX6_ripest_28 rfl (lv_at hl 1 rfl) ?_
    refine z_callV1 (rest := []) S (c_X6_ripestNow (n := n) (show n ≤ 8 by omega) (hz) (hB) k_ (show k_ < 5 by omega)) qm_X6_175 v_X6_ripestNow ⟨Nat.le_of_ble_eq_true rfl, Nat.le_of_ble_eq_true rfl⟩ rfl rfl hN hK hP hD hS hA (0) (mo_0) rfl rfl hl.1 rfl (Nat.le_of_ble_eq_true rfl) dX6_ripest_29 ⟨Nat.le_of_ble_eq_true rfl, Nat.le_of_ble_eq_true rfl⟩ (fun H locs hP hD hS => ?_)
    exact z_iret hx hb hr hlocks hP hD hK hS (Eq.symm (xwf_0 (K := kRipest (nI k_)) (by first | (simp only [kRipest, mP, sP, inP, cl, alwP, alwM, cvP, c1, nI_clamp (show k_ < 2 ^ 31 by omega), c3, not_true_eq_false, not_false_eq_true, and_self, and_true, true_and, and_false, false_and, or_true, true_or, or_false, false_or, if_true, if_false, ite_true, ite_false]; done) | (simp [kRipest, mP, sP, inP, cl, alwP, alwM, cvP, c1, nI_clamp (show k_ < 2 ^ 31 by omega), c3]; done) | (simp_all [kRipest, mP, sP, inP, cl, alwP, alwM, cvP]; done)))) (congrArg (fun y_ => some (Value.int y_)) (Eq.trans (b := mpP z (cl (nI k_)) n) (by simp only [cl, nI_clamp (show k_ < 2 ^ 31 by omega)]) (Eq.symm (xv_0 (K := kRipest (nI k_)) (by first | (simp only [kRipest, mP, sP, inP, cl, alwP, alwM, cvP, c1, nI_clamp (show k_ < 2 ^ 31 by omega), c3, not_true_eq_false, not_false_eq_true, and_self, and_true, true_and, and_false, false_and, or_true, true_or, or_false, false_or, if_true, if_false, ite_true, ite_false]; done) | (simp [kRipest, mP, sP, inP, cl, alwP, alwM, cvP, c1, nI_clamp (show k_ < 2 ^ 31 by omega), c3]; done) | (simp_all [kRipest, mP, sP, inP, cl, alwP, alwM, cvP]; done)))))) dX6_ripest_32
set_option maxHeartbeats 4000000 in
set_option maxRecDepth 100000 in
theorem c_X6_minuteWorth {n : Nat} (hn : n ≤ 8) (hz : z 5 = nI n) : zM l D (zT cI cC cM cB cJ) yX6_minuteWorth cX6_minuteWorth 1 (some .double) ({ frames := 3, cells := 0, slots := 0, locals := 66 } : Room) [.ref (q 0)] (moW cI q z hi tx pa ke mr hs wr) (moW cI q z hi tx pa ke (upd mr 2 0) hs wr) (some (.double (vomP z n))) 0 0 := by
  refine z_enter (by decide) (Nat.le_of_ble_eq_true rfl) ?_
  intro p e s m below meth c A S hr hlocks hnm hN hA hK hP hD hS ls hl
  obtain ⟨hx, hb, hml, hown, hts⟩ := id S
  have hl : lv_has ls 1 [(0, .ref (q 0))] := hl
  have hP : va_P D vwCl (moW cI q z hi tx pa ke mr hs wr) s.heap := hP
  have hD : va_D A (moW cI q z hi tx pa ke mr hs wr) := hD
  refine lv_aload_n hx hb dX6_minuteWorth_0 rfl (lv_at hl 0 rfl) ?_
  refine lv_iconst (v := 0) hx hb dX6_minuteWorth_1 (by decide) ?_
  refine z_put (v := .int 0) (ty := .int) (ws2 := moW cI q z hi tx pa ke (upd mr 2 0) hs wr) hx hb hts inTX6 tyX6 tyX6_ok nmX6 hown hK hP hD hS (0) (mo_0) rfl 5 (by decide) (hts _ qf_X6_25) (fun _ h9 => h9) rfl (by decide +kernel) (rfl) (rfl) (Nat.le_of_ble_eq_true rfl) dX6_minuteWorth_2 (mo_w0 _ mfl_s2) (fun H locs hP hD hS => ?_)
  refine lv_aload_n hx hb dX6_minuteWorth_5 rfl (lv_at hl 0 rfl) ?_
  refine z_callV1 (rest := []) S (c_X6_meanWorth (n := n) (show n ≤ 8 by omega) (hz)) qm_X6_178 v_X6_meanWorth ⟨Nat.le_of_ble_eq_true rfl, Nat.le_of_ble_eq_true rfl⟩ rfl rfl hN hK hP hD hS hA (0) (mo_0) rfl rfl hl.1 rfl (Nat.le_of_ble_eq_true rfl) dX6_minuteWorth_6 ⟨Nat.le_of_ble_eq_true rfl, Nat.le_of_ble_eq_true rfl⟩ (fun H locs hP hD hS => ?_)
  exact z_dret hx hb hr hlocks hP hD hK hS (rfl) (by first | rfl | (simp only [minP, maxP, not_true_eq_false, not_false_eq_true, and_self, and_true, true_and, and_false, false_and, or_true, true_or, or_false, false_or, if_true, if_false, ite_true, ite_false]; done) | (simp [minP, maxP]; done) | (simp_all [minP, maxP]; done)) dX6_minuteWorth_9
end XB
