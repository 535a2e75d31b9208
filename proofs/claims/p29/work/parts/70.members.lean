/-! Calls of the class by the law: none of them throws. -/
theorem pg_id {cI cC cM cB : ClassId} {ad t : Nat → Nat} {sg : Nat → Int32} {sz : Int32} {r : Nat → Int32} {x : Nat} {h : Nat → Nat} {ah : Nat → Nat → Nat} {na ma : Nat} {wr : va_W} {k n nx kp : Nat} {z : Nat → Int32} {zh : Nat → Nat → Int32} (p : pI k n z nx kp) : pG cI cC cM cB ad t sg sz r x h ah na ma wr k (xw0 cI cC cM cB ad z t sg sz r x h ah (nI nx) (nI kp) zh (lwS cI na ma z kp wr)) := pg_mk p (fun _ _ _ _ => rfl) (fun _ _ => rfl) rfl
theorem rOK_mot {C n : Nat} {z : Nat → Int32} (h : rOK C n z) : z 10 = -1 ∨ ∃ d, d < n ∧ z 10 = nI d ∧ z (14 + 16 * d) = 1 := by
  rcases h.2.2.2.2.2.1 with ⟨a, _⟩ | ⟨d, a, b, c, _⟩
  · exact Or.inl a
  · exact Or.inr ⟨d, a, b, c⟩
theorem upd_tw {f : Nat → Int32} {a : Nat} {v w : Int32} : upd (upd f a v) a w = upd f a w := by
  funext b
  by_cases e : b = a
  · rw [upd_eq e, upd_eq e]
  · rw [upd_ne e, upd_ne e, upd_ne e]
theorem cl_nI {a : Nat} (h : a < 2 ^ 31) : cl (nI a) = a := nI_clamp h
theorem mP_nI {a n : Nat} (h : a < n) (hn : n ≤ 8) : mP (nI a) n := ⟨nI_pos (by omega), nI_lt h (by omega)⟩
theorem sP_nI {a : Nat} (h : a < 5) : sP (nI a) := ⟨nI_pos (by omega), nI_nlt (b := a) (a := 4) (by omega) (by omega)⟩
theorem mn_in {m N : Nat} (h : m < N) (hN : N ≤ 999) : inP (nI (1 + m)) 1 (nI N) := ⟨nI_nlt (b := 1) (a := 1 + m) (by omega) (by omega), nI_nlt (b := 1 + m) (a := N) (by omega) (by omega)⟩
theorem mn_bt {m N : Nat} (h : m < N) (hN : N ≤ 999) : bt (nI (1 + m)) 1 N := by
  unfold bt; rw [nI_toInt (by omega)]; omega
def sLim (st : Nat) : Int32 := if nI st = 0 then 2000 else if nI st = 1 then 1000 else if nI st = 2 then 6 else if nI st = 3 then 101 else 301
theorem lt5 {P : Nat → Prop} (h0 : P 0) (h1 : P 1) (h2 : P 2) (h3 : P 3) (h4 : P 4) {j : Nat} (hj : j < 5) : P j := by
  match j, hj with
  | 0, _ => exact h0
  | 1, _ => exact h1
  | 2, _ => exact h2
  | 3, _ => exact h3
  | 4, _ => exact h4
theorem sLim_n {st : Nat} (h : st < 5) : ∃ N, 0 < N ∧ N < 2 ^ 31 ∧ sLim st = nI N ∧ (N : Int) ≤ (gsA st).toInt + 1 :=
  lt5 (P := fun st => ∃ N, 0 < N ∧ N < 2 ^ 31 ∧ sLim st = nI N ∧ (N : Int) ≤ (gsA st).toInt + 1) ⟨2000, by decide⟩ ⟨1000, by decide⟩ ⟨6, by decide⟩ ⟨101, by decide⟩ ⟨301, by decide⟩ h
theorem sLim_n0 {st : Nat} (h : st < 5) : ¬ sLim st = 0 := by
  obtain ⟨N, h0, hN, e, _⟩ := sLim_n h
  rw [e]; exact nI_n0 h0 hN
theorem set_in {st : Nat} {y : Int32} (h : st < 5) : inP (atP y (sLim st)) 0 (gsA st) := by
  obtain ⟨N, h0, hN, e, hg⟩ := sLim_n h
  rw [e]
  obtain ⟨a, ha, ea⟩ := at_nat (x := y) h0 hN
  rw [ea]
  refine ⟨nI_pos (by omega), fun q => ?_⟩
  rw [t_lt, nI_toInt (by omega)] at q
  omega
section KZ
variable {n a b s : Nat} {z : Nat → Int32} {mn : Int32}
theorem kg_join (h : n < 8) : kJoin n = 0 := if_pos (nI_lt (b := 8) h (by omega))
theorem kg_give (hn : n ≤ 8) (ha : a < n) (hb : b < n) (hs : s < 5) (hB : hBool z) (hm : inP mn 1 600) (c : cd1 z a b s mn) : kGive z n (nI a) (nI b) (nI s) mn = 0 := by
  have al := ((cd1_alw hB hn ha hb).mpr c).2
  unfold kGive
  rw [if_pos (mP_nI ha hn), if_pos (mP_nI hb hn), if_pos (sP_nI hs), if_neg c.1, if_pos hm, cl_nI (by omega), cl_nI (by omega), cl_nI (by omega), if_pos al]
theorem kg_worth (hn : n ≤ 8) (ha : a < n) (hs : s < 5) (hm : inP mn 1 600) : kWorth n (nI a) (nI s) mn = 0 := by
  unfold kWorth
  rw [if_pos (mP_nI ha hn), if_pos (sP_nI hs), if_pos hm]
theorem kg_leave (hn : n ≤ 8) (ha : a < n) (h1 : ¬ z (14 + 16 * a) = 0) (h2 : ¬ z (14 + 16 * a + 1) < 0) : kLeave z n (nI a) = 0 := by
  unfold kLeave
  rw [if_pos (mP_nI ha hn), cl_nI (by omega), if_neg h1, if_neg h2]
theorem kg_donate (hn : n ≤ 8) (ha : a < n) (hm : inP mn 1 999) (h1 : ¬ z (14 + 16 * a) = 0) (h2 : ¬ z (14 + 16 * a + 1) < mn) : kDonate z n (nI a) mn = 0 := by
  unfold kDonate
  rw [if_pos (mP_nI ha hn), if_pos hm, cl_nI (by omega), if_neg h1, if_neg h2]
theorem kg_set (hs : s < 5) (h : inP mn 0 (gsA s)) : kSet (nI s) mn = 0 := by
  unfold kSet
  rw [if_pos (sP_nI hs), cl_nI (by omega), if_pos h]
theorem kg_move (hn : n ≤ 8) (ha : a < n) (hm : ¬ mn < 1) (h : alwM z a mn) : kMove z n (nI a) mn = 0 := by
  unfold kMove
  rw [if_pos (mP_nI ha hn), if_neg hm, cl_nI (by omega), if_pos h]
theorem kg_vote (hn : n ≤ 8) (ha : a < n) (h : cvP z a) : kVote z n (nI a) = 0 := by
  unfold kVote
  rw [if_pos (mP_nI ha hn), cl_nI (by omega), if_pos h]
theorem kg_take (h : ¬ z 10 = -1) : kTake z = 0 := if_neg h
end KZ
section XL
variable {l : Launch} {D : va_G} {cI cC cM cB cJ : ClassId} {ad t h : Nat → Nat} {ah : Nat → Nat → Nat} {zh : Nat → Nat → Int32} {x na ma : Nat} {sg r : Nat → Int32} {sz : Int32} {z zl : Nat → Int32} {wr : va_W}
set_option maxHeartbeats 4000000 in
set_option maxRecDepth 100000 in
theorem c_L_members {k n nx kp : Nat} (hfl : l.stackTraces = false) (hk : k < 60) (hI : pI k n z nx kp) (xv yv : Int32) : zR l D (zT cI cC cM cB cJ) yL_members cL_members 12 (some .boolean) ({ frames := 7, cells := 1, slots := 6, locals := 136 } : Room) [.ref x, .int xv, .int yv, .ref na, .ref ma] (xw0 cI cC cM cB ad z t sg sz r x h ah (nI nx) (nI kp) zh (lwS cI na ma z kp wr)) (pG cI cC cM cB ad t sg sz r x h ah na ma wr (k + 1)) (some (.int 1)) 1 6 := by
  obtain ⟨hR, hn, hn2, hnx, hkp, hwk, hsum⟩ := id hI
  have hz : z 5 = nI n := hR.2.1
  have hB : hBool z := hR.2.2.1
  refine z_enterR (by decide) (Nat.le_of_ble_eq_true rfl) ?_
  intro p e s m below meth c A S hr hlocks hnm hJ hN hA hK hP hD hS ls hl
  obtain ⟨hx, hb, hml, hown, hts⟩ := id S
  have hl : lv_has ls 12 [(0, .ref x), (1, .int xv), (2, .int yv), (3, .ref na), (4, .ref ma)] := hl
  have hP : va_P D vwCl (xw0 cI cC cM cB ad z t sg sz r x h ah (nI nx) (nI kp) zh (lwS cI na ma z kp wr)) s.heap := hP
  have hD : va_D A (xw0 cI cC cM cB ad z t sg sz r x h ah (nI nx) (nI kp) zh (lwS cI na ma z kp wr)) := hD
  refine lv_iload_n hx hb dL_members_0 rfl (lv_at hl 1 rfl) ?_
  refine lv_bipush (v := 12) hx hb dL_members_1 (by decide) ?_
  refine z_callS1 (rest := []) S (c_L_at xv 12 (by decide)) qm_L_26 t_L_at ⟨Nat.le_of_ble_eq_true rfl, Nat.le_of_ble_eq_true rfl⟩ rfl rfl hN hK hP hD hS hA rfl hl.1 rfl (Nat.le_of_ble_eq_true rfl) dL_members_3 ⟨Nat.le_of_ble_eq_true rfl, Nat.le_of_ble_eq_true rfl⟩ (fun H locs hP hD hS => ?_)
  refine lv_istore (lv' := [(5, .int (atP xv 12)), (0, .ref x), (1, .int xv), (2, .int yv), (3, .ref na), (4, .ref ma)]) hx hb dL_members_6 hl (by decide) rfl (fun ls hl => ?_)
  refine lv_aload_n hx hb dL_members_8 rfl (lv_at hl 4 rfl) ?_
  refine lv_iconst (v := 0) hx hb dL_members_9 (by decide) ?_
  refine va_iald hx hb hK hP (139 + (0)) 0 ((xw_r).trans (lw_0)) rfl (vp_in_nI (show 0 < 15 by decide) (by omega)) dL_members_10 ?_
  refine z_top (v2 := .int (nI n)) (congrArg Value.int ((nf_0 rfl).trans (hz))) ?_
  refine lv_iconst (v := 2) hx hb dL_members_11 (by decide) ?_
  have J27_0 : n < 4 → ∀ (H : Heap) (locs : List Loc), va_P D vwCl (xw0 cI cC cM cB ad z t sg sz r x h ah (nI nx) (nI kp) zh (lwS cI na ma z kp wr)) H → va_D A (xw0 cI cC cM cB ad z t sg sz r x h ah (nI nx) (nI kp) zh (lwS cI na ma z kp wr)) → va_S A s.heap H locs → ∀ ls : Array Slot, lv_has ls 12 [(0, .ref x), (1, .int xv), (2, .int yv), (3, .ref na), (4, .ref ma), (5, .int (atP xv 12))] → W p l e ({ frames := 7, cells := 1, slots := 6, locals := 136 } : Room) s m ([.ref x, .int xv, .int yv, .ref na, .ref ma] : List Value).toArray below meth c H locs 0 0 (MQ below (zRQ D (zT cI cC cM cB cJ) (pG cI cC cM cB ad t sg sz r x h ah na ma wr (k + 1)) (some (.int 1)) A) ([.ref x, .int xv, .int yv, .ref na, .ref ma] : List Value).toArray s 1 6 A) (F0 m 27 ls []) := by
    intro h4 H locs hP hD hS ls hl
    refine lv_aload_n hx hb dL_members_27 rfl (lv_at hl 3 rfl) ?_
    refine lv_iconst (v := 0) hx hb dL_members_28 (by decide) ?_
    refine lv_dup2_11 hx hb dL_members_29 rfl rfl ?_
    refine va_iald hx hb hK hP (139 + (0)) 0 ((xw_r).trans (lw_0)) rfl (vp_in_nI (show 0 < 15 by decide) (by omega)) dL_members_30 ?_
    refine z_top (v2 := .int (nI n)) (congrArg Value.int ((nf_0 rfl).trans (hz))) ?_
    refine lv_dup_x2 hx hb dL_members_31 rfl rfl rfl ?_
    refine lv_iconst (v := 1) hx hb dL_members_32 (by decide) ?_
    refine lv_iadd hx hb dL_members_33  ?_
    refine z_top (v2 := .int (nI (n + 1))) (congrArg Value.int (nI_add n 1)) ?_
    refine z_iast (ws2 := xw0 cI cC cM cB ad z t sg sz r x h ah (nI nx) (nI kp) zh (lwS cI na ma (upd z 5 (nI (n + 1))) kp wr)) hx hb hK hP hD hS (139 + (0)) 0 ((xw_r).trans (lw_0)) rfl (vp_in_nI (show 0 < 15 by decide) (by omega)) dL_members_34 ((xw_rs).trans (congrArg (fun w_ => xw0 cI cC cM cB ad z t sg sz r x h ah (nI nx) (nI kp) zh w_) (z_ixw (k := 0) rfl (by omega) (fun q_ => (lwS cI na ma z kp wr).set 0 (na, .inl (cI, 15, .inl (upd (nfn z kp) q_ (nI (n + 1)))))) (lw_wx (by decide) (by decide) rfl)))) (fun H locs hP hD hS => ?_)
    refine lv_istore (lv' := [(6, .int (nI n)), (0, .ref x), (1, .int xv), (2, .int yv), (3, .ref na), (4, .ref ma), (5, .int (atP xv 12))]) hx hb dL_members_35 hl (by decide) rfl (fun ls hl => ?_)
    refine lv_aload hx hb dL_members_37 (lv_at hl 5 rfl) ?_
    refine lv_bipush (v := 16) hx hb dL_members_39 (by decide) ?_
    refine lv_iload hx hb dL_members_41 (lv_at hl 0 rfl) ?_
    refine lv_imul hx hb dL_members_43 ?_
    refine z_top (v2 := .int (nI (16 * n))) (congrArg Value.int (pk_mul 16 n)) ?_
    refine lv_iconst (v := 1) hx hb dL_members_44 (by decide) ?_
    refine z_iast (ws2 := xw0 cI cC cM cB ad z t sg sz r x h ah (nI nx) (nI kp) zh (lwS cI na ma (upd (upd z 5 (nI (n + 1))) (14 + 16 * n) 1) kp wr)) hx hb hK hP hD hS (139 + (1)) 0 ((xw_r).trans (lw_1)) rfl (vp_in_nI (show 16 * n < 64 by omega) (by omega)) dL_members_45 ((xw_rs).trans (congrArg (fun w_ => xw0 cI cC cM cB ad z t sg sz r x h ah (nI nx) (nI kp) zh w_) (z_ixw rfl (show 16 * n < 2 ^ 31 by omega) (fun q_ => (lwS cI na ma (upd z 5 (nI (n + 1))) kp wr).set 1 (ma, .inl (cI, 64, .inl (upd (mfn (upd z 5 (nI (n + 1)))) q_ 1)))) (lw_wm (show 16 * n < 64 by omega) (show 14 + (16 * n) = 14 + 16 * n by omega))))) (fun H locs hP hD hS => ?_)
    refine lv_aload hx hb dL_members_46 (lv_at hl 5 rfl) ?_
    refine lv_bipush (v := 16) hx hb dL_members_48 (by decide) ?_
    refine lv_iload hx hb dL_members_50 (lv_at hl 0 rfl) ?_
    refine lv_imul hx hb dL_members_52 ?_
    refine z_top (v2 := .int (nI (16 * n))) (congrArg Value.int (pk_mul 16 n)) ?_
    refine lv_iconst (v := 1) hx hb dL_members_53 (by decide) ?_
    refine lv_iadd hx hb dL_members_54  ?_
    refine z_top (v2 := .int (nI (16 * n + 1))) (congrArg Value.int (nI_add (16 * n) 1)) ?_
    refine lv_aload_n hx hb dL_members_55 rfl (lv_at hl 4 rfl) ?_
    refine lv_bipush (v := 7) hx hb dL_members_56 (by decide) ?_
    refine va_iald hx hb hK hP (139 + (0)) 0 ((xw_r).trans (lw_0)) rfl (vp_in_nI (show 7 < 15 by decide) (by omega)) dL_members_58 ?_
    refine z_top (v2 := .int (z 1)) (congrArg Value.int ((nf_7 rfl).trans ((upd_ne (by omega)).trans ((upd_ne (by omega)).trans (rfl))))) ?_
    refine z_iast (ws2 := xw0 cI cC cM cB ad z t sg sz r x h ah (nI nx) (nI kp) zh (lwS cI na ma (upd (upd (upd z 5 (nI (n + 1))) (14 + 16 * n) 1) (14 + 16 * n + 1) (z 1)) kp wr)) hx hb hK hP hD hS (139 + (1)) 0 ((xw_r).trans (lw_1)) rfl (vp_in_nI (show 16 * n + 1 < 64 by omega) (by omega)) dL_members_59 ((xw_rs).trans (congrArg (fun w_ => xw0 cI cC cM cB ad z t sg sz r x h ah (nI nx) (nI kp) zh w_) (z_ixw rfl (show 16 * n + 1 < 2 ^ 31 by omega) (fun q_ => (lwS cI na ma (upd (upd z 5 (nI (n + 1))) (14 + 16 * n) 1) kp wr).set 1 (ma, .inl (cI, 64, .inl (upd (mfn (upd (upd z 5 (nI (n + 1))) (14 + 16 * n) 1)) q_ (z 1))))) (lw_wm (show 16 * n + 1 < 64 by omega) (show 14 + (16 * n + 1) = 14 + 16 * n + 1 by omega))))) (fun H locs hP hD hS => ?_)
    refine lv_aload hx hb dL_members_60 (lv_at hl 5 rfl) ?_
    refine lv_bipush (v := 16) hx hb dL_members_62 (by decide) ?_
    refine lv_iload hx hb dL_members_64 (lv_at hl 0 rfl) ?_
    refine lv_imul hx hb dL_members_66 ?_
    refine z_top (v2 := .int (nI (16 * n))) (congrArg Value.int (pk_mul 16 n)) ?_
    refine lv_iconst (v := 2) hx hb dL_members_67 (by decide) ?_
    refine lv_iadd hx hb dL_members_68  ?_
    refine z_top (v2 := .int (nI (16 * n + 2))) (congrArg Value.int (nI_add (16 * n) 2)) ?_
    refine lv_aload_n hx hb dL_members_69 rfl (lv_at hl 4 rfl) ?_
    refine lv_bipush (v := 7) hx hb dL_members_70 (by decide) ?_
    refine va_iald hx hb hK hP (139 + (0)) 0 ((xw_r).trans (lw_0)) rfl (vp_in_nI (show 7 < 15 by decide) (by omega)) dL_members_72 ?_
    refine z_top (v2 := .int (z 1)) (congrArg Value.int ((nf_7 rfl).trans ((upd_ne (by omega)).trans ((upd_ne (by omega)).trans ((upd_ne (by omega)).trans (rfl)))))) ?_
    refine z_iast (ws2 := xw0 cI cC cM cB ad z t sg sz r x h ah (nI nx) (nI kp) zh (lwS cI na ma (upd (upd (upd (upd z 5 (nI (n + 1))) (14 + 16 * n) 1) (14 + 16 * n + 1) (z 1)) (14 + 16 * n + 2) (z 1)) kp wr)) hx hb hK hP hD hS (139 + (1)) 0 ((xw_r).trans (lw_1)) rfl (vp_in_nI (show 16 * n + 2 < 64 by omega) (by omega)) dL_members_73 ((xw_rs).trans (congrArg (fun w_ => xw0 cI cC cM cB ad z t sg sz r x h ah (nI nx) (nI kp) zh w_) (z_ixw rfl (show 16 * n + 2 < 2 ^ 31 by omega) (fun q_ => (lwS cI na ma (upd (upd (upd z 5 (nI (n + 1))) (14 + 16 * n) 1) (14 + 16 * n + 1) (z 1)) kp wr).set 1 (ma, .inl (cI, 64, .inl (upd (mfn (upd (upd (upd z 5 (nI (n + 1))) (14 + 16 * n) 1) (14 + 16 * n + 1) (z 1))) q_ (z 1))))) (lw_wm (show 16 * n + 2 < 64 by omega) (show 14 + (16 * n + 2) = 14 + 16 * n + 2 by omega))))) (fun H locs hP hD hS => ?_)
    refine lv_aload_n hx hb dL_members_74 rfl (lv_at hl 4 rfl) ?_
    refine lv_iconst (v := 1) hx hb dL_members_75 (by decide) ?_
    refine lv_dup2_11 hx hb dL_members_76 rfl rfl ?_
    refine va_iald hx hb hK hP (139 + (0)) 0 ((xw_r).trans (lw_0)) rfl (vp_in_nI (show 1 < 15 by decide) (by omega)) dL_members_77 ?_
    refine z_top (v2 := .int (z 6)) (congrArg Value.int ((nf_1 rfl).trans ((upd_ne (by omega)).trans ((upd_ne (by omega)).trans ((upd_ne (by omega)).trans ((upd_ne (by omega)).trans (rfl))))))) ?_
    refine lv_aload_n hx hb dL_members_78 rfl (lv_at hl 4 rfl) ?_
    refine lv_bipush (v := 7) hx hb dL_members_79 (by decide) ?_
    refine va_iald hx hb hK hP (139 + (0)) 0 ((xw_r).trans (lw_0)) rfl (vp_in_nI (show 7 < 15 by decide) (by omega)) dL_members_81 ?_
    refine z_top (v2 := .int (z 1)) (congrArg Value.int ((nf_7 rfl).trans ((upd_ne (by omega)).trans ((upd_ne (by omega)).trans ((upd_ne (by omega)).trans ((upd_ne (by omega)).trans (rfl))))))) ?_
    refine lv_isub hx hb dL_members_82  ?_
    refine z_iast (ws2 := xw0 cI cC cM cB ad z t sg sz r x h ah (nI nx) (nI kp) zh (lwS cI na ma (upd (upd (upd (upd (upd z 5 (nI (n + 1))) (14 + 16 * n) 1) (14 + 16 * n + 1) (z 1)) (14 + 16 * n + 2) (z 1)) 6 ((z 6) - (z 1))) kp wr)) hx hb hK hP hD hS (139 + (0)) 0 ((xw_r).trans (lw_0)) rfl (vp_in_nI (show 1 < 15 by decide) (by omega)) dL_members_83 ((xw_rs).trans (congrArg (fun w_ => xw0 cI cC cM cB ad z t sg sz r x h ah (nI nx) (nI kp) zh w_) (z_ixw (k := 1) rfl (by omega) (fun q_ => (lwS cI na ma (upd (upd (upd (upd z 5 (nI (n + 1))) (14 + 16 * n) 1) (14 + 16 * n + 1) (z 1)) (14 + 16 * n + 2) (z 1)) kp wr).set 0 (na, .inl (cI, 15, .inl (upd (nfn (upd (upd (upd (upd z 5 (nI (n + 1))) (14 + 16 * n) 1) (14 + 16 * n + 1) (z 1)) (14 + 16 * n + 2) (z 1)) kp) q_ ((z 6) - (z 1)))))) (lw_wx (by decide) (by decide) rfl)))) (fun H locs hP hD hS => ?_)
    refine lv_aload_n hx hb dL_members_84 rfl (lv_at hl 4 rfl) ?_
    refine lv_iconst (v := 5) hx hb dL_members_85 (by decide) ?_
    refine va_iald hx hb hK hP (139 + (0)) 0 ((xw_r).trans (lw_0)) rfl (vp_in_nI (show 5 < 15 by decide) (by omega)) dL_members_86 ?_
    refine z_top (v2 := .int (nI kp)) (congrArg Value.int (nf_5 rfl)) ?_
    refine lv_bipush (v := 6) hx hb dL_members_87 (by decide) ?_
    have J99_0 : ∀ (H : Heap) (locs : List Loc), va_P D vwCl (xw0 cI cC cM cB ad z t sg sz r x h ah (nI nx) (nI kp) zh (lwS cI na ma (upd (upd (upd (upd (upd z 5 (nI (n + 1))) (14 + 16 * n) 1) (14 + 16 * n + 1) (z 1)) (14 + 16 * n + 2) (z 1)) 6 ((z 6) - (z 1))) (min (kp + 1) 6) wr)) H → va_D A (xw0 cI cC cM cB ad z t sg sz r x h ah (nI nx) (nI kp) zh (lwS cI na ma (upd (upd (upd (upd (upd z 5 (nI (n + 1))) (14 + 16 * n) 1) (14 + 16 * n + 1) (z 1)) (14 + 16 * n + 2) (z 1)) 6 ((z 6) - (z 1))) (min (kp + 1) 6) wr)) → va_S A s.heap H locs → ∀ ls : Array Slot, lv_has ls 12 [(0, .ref x), (1, .int xv), (2, .int yv), (3, .ref na), (4, .ref ma), (5, .int (atP xv 12)), (6, .int (nI n))] → W p l e ({ frames := 7, cells := 1, slots := 6, locals := 136 } : Room) s m ([.ref x, .int xv, .int yv, .ref na, .ref ma] : List Value).toArray below meth c H locs 0 0 (MQ below (zRQ D (zT cI cC cM cB cJ) (pG cI cC cM cB ad t sg sz r x h ah na ma wr (k + 1)) (some (.int 1)) A) ([.ref x, .int xv, .int yv, .ref na, .ref ma] : List Value).toArray s 1 6 A) (F0 m 99 ls []) := by
      intro H locs hP hD hS ls hl
      refine lv_aload_n hx hb dL_members_99 rfl (lv_at hl 0 rfl) ?_
      have hM := c_X5_join (l := l) (D := D) (cI := cI) (cC := cC) (cM := cM) (cB := cB) (cJ := cJ) (ad := ad) (z := z) (t := t) (h := h) (ah := ah) (zh := zh) (x := x) (sg := sg) (r := r) (sz := sz) (nx := nx) (kp := kp) (wr := lwS cI na ma (upd (upd (upd (upd (upd z 5 (nI (n + 1))) (14 + 16 * n) 1) (14 + 16 * n + 1) (z 1)) (14 + 16 * n + 2) (z 1)) 6 ((z 6) - (z 1))) (min (kp + 1) 6) wr) hfl (n := n) (by omega) hz hnx hkp hB 
      refine z_callX (rest := []) S hM qm_L_30 v_X5_join ⟨Nat.le_of_ble_eq_true rfl, Nat.le_of_ble_eq_true rfl⟩ rfl rfl hJ hN hK hP hD hS hA 22 xw_x rfl rfl hl.1 rfl (Nat.le_of_ble_eq_true rfl) dL_members_100 ⟨Nat.le_of_ble_eq_true rfl, Nat.le_of_ble_eq_true rfl⟩ (fun _ H locs hP hD hS => ?_) (fun q_ => absurd (kg_join (by omega)) q_)
      refine W.eq (g2 := F0 m 103 ls [.int (nI n)]) rfl ?_
      refine lv_iload hx hb dL_members_103 (lv_at hl 6 rfl) ?_
      refine lv_icmp_ne (tgt := 112) hx hb dL_members_105 (by decide) (fun c1 => absurd c1 (not_not_intro rfl)) (fun c1 => ?_)
      refine lv_iconst (v := 1) hx hb dL_members_108 (by decide) ?_
      refine lv_goto (tgt := 113) hx hb dL_members_109 (by decide) ?_
      exact z_zretR hx hb hr hlocks hP hD hK hS (pg_mk (ps_join hI h4) (fun _ _ _ _ => rfl) (fun _ _ => rfl) rfl) rfl rfl dL_members_113
    refine lv_icmp_ge (tgt := 99) hx hb dL_members_89 (by decide) (fun c2 => ?_) (fun c2 => ?_)
    · have c2 := z_nlt c2
      have hP := va_P_eq (w2 := xw0 cI cC cM cB ad z t sg sz r x h ah (nI nx) (nI kp) zh (lwS cI na ma (upd (upd (upd (upd (upd z 5 (nI (n + 1))) (14 + 16 * n) 1) (14 + 16 * n + 1) (z 1)) (14 + 16 * n + 2) (z 1)) 6 ((z 6) - (z 1))) (min (kp + 1) 6) wr)) (congrArg (fun q_ => xw0 cI cC cM cB ad z t sg sz r x h ah (nI nx) (nI kp) zh (lwS cI na ma (upd (upd (upd (upd (upd z 5 (nI (n + 1))) (14 + 16 * n) 1) (14 + 16 * n + 1) (z 1)) (14 + 16 * n + 2) (z 1)) 6 ((z 6) - (z 1))) q_ wr)) (show kp = min (kp + 1) 6 by have : ¬ kp < 6 := fun q => c2 ((nI_lti (a := kp) (b := 6) (by omega) (by omega)).mpr q); omega)) hP
      have hD := va_D_eq (w2 := xw0 cI cC cM cB ad z t sg sz r x h ah (nI nx) (nI kp) zh (lwS cI na ma (upd (upd (upd (upd (upd z 5 (nI (n + 1))) (14 + 16 * n) 1) (14 + 16 * n + 1) (z 1)) (14 + 16 * n + 2) (z 1)) 6 ((z 6) - (z 1))) (min (kp + 1) 6) wr)) (congrArg (fun q_ => xw0 cI cC cM cB ad z t sg sz r x h ah (nI nx) (nI kp) zh (lwS cI na ma (upd (upd (upd (upd (upd z 5 (nI (n + 1))) (14 + 16 * n) 1) (14 + 16 * n + 1) (z 1)) (14 + 16 * n + 2) (z 1)) 6 ((z 6) - (z 1))) q_ wr)) (show kp = min (kp + 1) 6 by have : ¬ kp < 6 := fun q => c2 ((nI_lti (a := kp) (b := 6) (by omega) (by omega)).mpr q); omega)) hD
      exact J99_0 _ _ hP hD hS ls (lv_sub hl [1, 2, 3, 4, 5, 6, 0] rfl)
    · have c2 := z_lt c2
      refine lv_aload_n hx hb dL_members_92 rfl (lv_at hl 4 rfl) ?_
      refine lv_iconst (v := 5) hx hb dL_members_93 (by decide) ?_
      refine lv_dup2_11 hx hb dL_members_94 rfl rfl ?_
      refine va_iald hx hb hK hP (139 + (0)) 0 ((xw_r).trans (lw_0)) rfl (vp_in_nI (show 5 < 15 by decide) (by omega)) dL_members_95 ?_
      refine z_top (v2 := .int (nI kp)) (congrArg Value.int (nf_5 rfl)) ?_
      refine lv_iconst (v := 1) hx hb dL_members_96 (by decide) ?_
      refine lv_iadd hx hb dL_members_97  ?_
      refine z_top (v2 := .int (nI (kp + 1))) (congrArg Value.int (nI_add kp 1)) ?_
      refine z_iast (ws2 := xw0 cI cC cM cB ad z t sg sz r x h ah (nI nx) (nI kp) zh (lwS cI na ma (upd (upd (upd (upd (upd z 5 (nI (n + 1))) (14 + 16 * n) 1) (14 + 16 * n + 1) (z 1)) (14 + 16 * n + 2) (z 1)) 6 ((z 6) - (z 1))) (kp + 1) wr)) hx hb hK hP hD hS (139 + (0)) 0 ((xw_r).trans (lw_0)) rfl (vp_in_nI (show 5 < 15 by decide) (by omega)) dL_members_98 ((xw_rs).trans (congrArg (fun w_ => xw0 cI cC cM cB ad z t sg sz r x h ah (nI nx) (nI kp) zh w_) (z_ixw (k := 5) rfl (by omega) (fun q_ => (lwS cI na ma (upd (upd (upd (upd (upd z 5 (nI (n + 1))) (14 + 16 * n) 1) (14 + 16 * n + 1) (z 1)) (14 + 16 * n + 2) (z 1)) 6 ((z 6) - (z 1))) kp wr).set 0 (na, .inl (cI, 15, .inl (upd (nfn (upd (upd (upd (upd (upd z 5 (nI (n + 1))) (14 + 16 * n) 1) (14 + 16 * n + 1) (z 1)) (14 + 16 * n + 2) (z 1)) 6 ((z 6) - (z 1))) kp) q_ (nI (kp + 1)))))) lw_wk))) (fun H locs hP hD hS => ?_)
      have hP := va_P_eq (w2 := xw0 cI cC cM cB ad z t sg sz r x h ah (nI nx) (nI kp) zh (lwS cI na ma (upd (upd (upd (upd (upd z 5 (nI (n + 1))) (14 + 16 * n) 1) (14 + 16 * n + 1) (z 1)) (14 + 16 * n + 2) (z 1)) 6 ((z 6) - (z 1))) (min (kp + 1) 6) wr)) (congrArg (fun q_ => xw0 cI cC cM cB ad z t sg sz r x h ah (nI nx) (nI kp) zh (lwS cI na ma (upd (upd (upd (upd (upd z 5 (nI (n + 1))) (14 + 16 * n) 1) (14 + 16 * n + 1) (z 1)) (14 + 16 * n + 2) (z 1)) 6 ((z 6) - (z 1))) q_ wr)) (show kp + 1 = min (kp + 1) 6 by have := (nI_lti (a := kp) (b := 6) (by omega) (by omega)).mp c2; omega)) hP
      have hD := va_D_eq (w2 := xw0 cI cC cM cB ad z t sg sz r x h ah (nI nx) (nI kp) zh (lwS cI na ma (upd (upd (upd (upd (upd z 5 (nI (n + 1))) (14 + 16 * n) 1) (14 + 16 * n + 1) (z 1)) (14 + 16 * n + 2) (z 1)) 6 ((z 6) - (z 1))) (min (kp + 1) 6) wr)) (congrArg (fun q_ => xw0 cI cC cM cB ad z t sg sz r x h ah (nI nx) (nI kp) zh (lwS cI na ma (upd (upd (upd (upd (upd z 5 (nI (n + 1))) (14 + 16 * n) 1) (14 + 16 * n + 1) (z 1)) (14 + 16 * n + 2) (z 1)) 6 ((z 6) - (z 1))) q_ wr)) (show kp + 1 = min (kp + 1) 6 by have := (nI_lti (a := kp) (b := 6) (by omega) (by omega)).mp c2; omega)) hD
      exact J99_0 _ _ hP hD hS ls (lv_sub hl [1, 2, 3, 4, 5, 6, 0] rfl)
  have J114_1 : 2 ≤ n → ∀ (H : Heap) (locs : List Loc), va_P D vwCl (xw0 cI cC cM cB ad z t sg sz r x h ah (nI nx) (nI kp) zh (lwS cI na ma z kp wr)) H → va_D A (xw0 cI cC cM cB ad z t sg sz r x h ah (nI nx) (nI kp) zh (lwS cI na ma z kp wr)) → va_S A s.heap H locs → ∀ ls : Array Slot, lv_has ls 12 [(0, .ref x), (1, .int xv), (2, .int yv), (3, .ref na), (4, .ref ma), (5, .int (atP xv 12))] → W p l e ({ frames := 7, cells := 1, slots := 6, locals := 136 } : Room) s m ([.ref x, .int xv, .int yv, .ref na, .ref ma] : List Value).toArray below meth c H locs 0 0 (MQ below (zRQ D (zT cI cC cM cB cJ) (pG cI cC cM cB ad t sg sz r x h ah na ma wr (k + 1)) (some (.int 1)) A) ([.ref x, .int xv, .int yv, .ref na, .ref ma] : List Value).toArray s 1 6 A) (F0 m 114 ls []) := by
    intro h2 H locs hP hD hS ls hl
    refine lv_iload_n hx hb dL_members_114 rfl (lv_at hl 2 rfl) ?_
    refine lv_aload_n hx hb dL_members_115 rfl (lv_at hl 3 rfl) ?_
    refine lv_iconst (v := 0) hx hb dL_members_116 (by decide) ?_
    refine va_iald hx hb hK hP (139 + (0)) 0 ((xw_r).trans (lw_0)) rfl (vp_in_nI (show 0 < 15 by decide) (by omega)) dL_members_117 ?_
    refine z_top (v2 := .int (nI n)) (congrArg Value.int ((nf_0 rfl).trans (hz))) ?_
    refine z_callS1 (rest := []) S (c_L_at yv (nI n) (nI_n0 (show 0 < n by omega) (by omega))) qm_L_26 t_L_at ⟨Nat.le_of_ble_eq_true rfl, Nat.le_of_ble_eq_true rfl⟩ rfl rfl hN hK hP hD hS hA rfl hl.1 rfl (Nat.le_of_ble_eq_true rfl) dL_members_118 ⟨Nat.le_of_ble_eq_true rfl, Nat.le_of_ble_eq_true rfl⟩ (fun H locs hP hD hS => ?_)
    obtain ⟨a, h_a, e_a⟩ := at_nat (x := yv) (N := n) (by omega) (by omega)
    refine z_top (v2 := .int (nI a)) (congrArg Value.int e_a) ?_
    refine lv_istore (lv' := [(6, .int (nI a)), (0, .ref x), (1, .int xv), (2, .int yv), (3, .ref na), (4, .ref ma), (5, .int (atP xv 12))]) hx hb dL_members_121 hl (by decide) rfl (fun ls hl => ?_)
    refine lv_iload_n hx hb dL_members_123 rfl (lv_at hl 3 rfl) ?_
    refine lv_iconst (v := 2) hx hb dL_members_124 (by decide) ?_
    refine lv_ishr hx hb dL_members_125  ?_
    refine lv_aload_n hx hb dL_members_126 rfl (lv_at hl 4 rfl) ?_
    refine lv_iconst (v := 0) hx hb dL_members_127 (by decide) ?_
    refine va_iald hx hb hK hP (139 + (0)) 0 ((xw_r).trans (lw_0)) rfl (vp_in_nI (show 0 < 15 by decide) (by omega)) dL_members_128 ?_
    refine z_top (v2 := .int (nI n)) (congrArg Value.int ((nf_0 rfl).trans (hz))) ?_
    refine z_callS1 (rest := []) S (c_L_at (yv >>> (2 &&& 31)) (nI n) (nI_n0 (show 0 < n by omega) (by omega))) qm_L_26 t_L_at ⟨Nat.le_of_ble_eq_true rfl, Nat.le_of_ble_eq_true rfl⟩ rfl rfl hN hK hP hD hS hA rfl hl.1 rfl (Nat.le_of_ble_eq_true rfl) dL_members_129 ⟨Nat.le_of_ble_eq_true rfl, Nat.le_of_ble_eq_true rfl⟩ (fun H locs hP hD hS => ?_)
    obtain ⟨b, h_b, e_b⟩ := at_nat (x := (yv >>> (2 &&& 31))) (N := n) (by omega) (by omega)
    refine z_top (v2 := .int (nI b)) (congrArg Value.int e_b) ?_
    refine lv_istore (lv' := [(7, .int (nI b)), (6, .int (nI a)), (0, .ref x), (1, .int xv), (2, .int yv), (3, .ref na), (4, .ref ma), (5, .int (atP xv 12))]) hx hb dL_members_132 hl (by decide) rfl (fun ls hl => ?_)
    refine lv_iload_n hx hb dL_members_134 rfl (lv_at hl 4 rfl) ?_
    refine lv_iconst (v := 4) hx hb dL_members_135 (by decide) ?_
    refine lv_ishr hx hb dL_members_136  ?_
    refine lv_iconst (v := 5) hx hb dL_members_137 (by decide) ?_
    refine z_callS1 (rest := []) S (c_L_at (yv >>> (4 &&& 31)) 5 (by decide)) qm_L_26 t_L_at ⟨Nat.le_of_ble_eq_true rfl, Nat.le_of_ble_eq_true rfl⟩ rfl rfl hN hK hP hD hS hA rfl hl.1 rfl (Nat.le_of_ble_eq_true rfl) dL_members_138 ⟨Nat.le_of_ble_eq_true rfl, Nat.le_of_ble_eq_true rfl⟩ (fun H locs hP hD hS => ?_)
    obtain ⟨sk, h_sk, e_sk⟩ := at_nat (x := (yv >>> (4 &&& 31))) (N := 5) (by omega) (by omega)
    refine z_top (v2 := .int (nI sk)) (congrArg Value.int e_sk) ?_
    refine lv_istore (lv' := [(8, .int (nI sk)), (7, .int (nI b)), (6, .int (nI a)), (0, .ref x), (1, .int xv), (2, .int yv), (3, .ref na), (4, .ref ma), (5, .int (atP xv 12))]) hx hb dL_members_141 hl (by decide) rfl (fun ls hl => ?_)
    refine lv_iload hx hb dL_members_143 (lv_at hl 8 rfl) ?_
    refine lv_bipush (v := 8) hx hb dL_members_145 (by decide) ?_
    refine lv_icmp_ge (tgt := 499) hx hb dL_members_147 (by decide) (fun c3 => ?_) (fun c3 => ?_)
    · have c3 := z_nlt c3
      refine lv_iload hx hb dL_members_499 (lv_at hl 8 rfl) ?_
      refine lv_bipush (v := 8) hx hb dL_members_501 (by decide) ?_
      have J685_1 : ∀ (H : Heap) (locs : List Loc), va_P D vwCl (xw0 cI cC cM cB ad z t sg sz r x h ah (nI nx) (nI kp) zh (lwS cI na ma z kp wr)) H → va_D A (xw0 cI cC cM cB ad z t sg sz r x h ah (nI nx) (nI kp) zh (lwS cI na ma z kp wr)) → va_S A s.heap H locs → ∀ ls : Array Slot, lv_has ls 12 [(0, .ref x), (1, .int xv), (2, .int yv), (3, .ref na), (4, .ref ma), (5, .int (atP xv 12)), (6, .int (nI a)), (7, .int (nI b)), (8, .int (nI sk))] → W p l e ({ frames := 7, cells := 1, slots := 6, locals := 136 } : Room) s m ([.ref x, .int xv, .int yv, .ref na, .ref ma] : List Value).toArray below meth c H locs 0 0 (MQ below (zRQ D (zT cI cC cM cB cJ) (pG cI cC cM cB ad t sg sz r x h ah na ma wr (k + 1)) (some (.int 1)) A) ([.ref x, .int xv, .int yv, .ref na, .ref ma] : List Value).toArray s 1 6 A) (F0 m 685 ls []) := by
        intro H locs hP hD hS ls hl
        refine lv_iload hx hb dL_members_685 (lv_at hl 5 rfl) ?_
        refine lv_bipush (v := 10) hx hb dL_members_687 (by decide) ?_
        refine lv_icmp_ge (tgt := 798) hx hb dL_members_689 (by decide) (fun c4 => ?_) (fun c4 => ?_)
        · have c4 := z_nlt c4
          refine lv_iload_n hx hb dL_members_798 rfl (lv_at hl 2 rfl) ?_
          refine lv_iconst (v := 5) hx hb dL_members_799 (by decide) ?_
          refine z_callS1 (rest := []) S (c_L_at yv 5 (by decide)) qm_L_26 t_L_at ⟨Nat.le_of_ble_eq_true rfl, Nat.le_of_ble_eq_true rfl⟩ rfl rfl hN hK hP hD hS hA rfl hl.1 rfl (Nat.le_of_ble_eq_true rfl) dL_members_800 ⟨Nat.le_of_ble_eq_true rfl, Nat.le_of_ble_eq_true rfl⟩ (fun H locs hP hD hS => ?_)
          obtain ⟨st, h_st, e_st⟩ := at_nat (x := yv) (N := 5) (by omega) (by omega)
          refine z_top (v2 := .int (nI st)) (congrArg Value.int e_st) ?_
          refine lv_istore (lv' := [(9, .int (nI st)), (0, .ref x), (1, .int xv), (2, .int yv), (3, .ref na), (4, .ref ma), (5, .int (atP xv 12)), (6, .int (nI a)), (7, .int (nI b)), (8, .int (nI sk))]) hx hb dL_members_803 hl (by decide) rfl (fun ls hl => ?_)
          refine lv_aload_n hx hb dL_members_805 rfl (lv_at hl 4 rfl) ?_
          refine lv_bipush (v := 6) hx hb dL_members_806 (by decide) ?_
          refine lv_iload hx hb dL_members_808 (lv_at hl 0 rfl) ?_
          refine lv_iadd hx hb dL_members_810  ?_
          refine z_top (v2 := .int (nI (6 + st))) (congrArg Value.int (nI_add 6 st)) ?_
          refine va_iald hx hb hK hP (139 + (0)) 0 ((xw_r).trans (lw_0)) rfl (vp_in_nI (show 6 + st < 15 by omega) (by omega)) dL_members_811 ?_
          refine z_top (v2 := .int (z st)) (congrArg Value.int ((nf_s rfl (by omega)).trans (rfl))) ?_
          refine lv_istore (lv' := [(10, .int (z st)), (9, .int (nI st)), (0, .ref x), (1, .int xv), (2, .int yv), (3, .ref na), (4, .ref ma), (5, .int (atP xv 12)), (6, .int (nI a)), (7, .int (nI b)), (8, .int (nI sk))]) hx hb dL_members_812 hl (by decide) rfl (fun ls hl => ?_)
          refine lv_aload_n hx hb dL_members_814 rfl (lv_at hl 5 rfl) ?_
          refine lv_bipush (v := 6) hx hb dL_members_815 (by decide) ?_
          refine lv_iload hx hb dL_members_817 (lv_at hl 1 rfl) ?_
          refine lv_iadd hx hb dL_members_819  ?_
          refine z_top (v2 := .int (nI (6 + st))) (congrArg Value.int (nI_add 6 st)) ?_
          refine lv_iload_n hx hb dL_members_820 rfl (lv_at hl 4 rfl) ?_
          refine lv_iconst (v := 3) hx hb dL_members_821 (by decide) ?_
          refine lv_ishr hx hb dL_members_822  ?_
          refine lv_iload hx hb dL_members_823 (lv_at hl 1 rfl) ?_
          have J871_1 : ∀ (H : Heap) (locs : List Loc), va_P D vwCl (xw0 cI cC cM cB ad z t sg sz r x h ah (nI nx) (nI kp) zh (lwS cI na ma z kp wr)) H → va_D A (xw0 cI cC cM cB ad z t sg sz r x h ah (nI nx) (nI kp) zh (lwS cI na ma z kp wr)) → va_S A s.heap H locs → ∀ ls : Array Slot, lv_has ls 12 [(0, .ref x), (1, .int xv), (2, .int yv), (3, .ref na), (4, .ref ma), (5, .int (atP xv 12)), (6, .int (nI a)), (7, .int (nI b)), (8, .int (nI sk)), (9, .int (nI st)), (10, .int (z st))] → W p l e ({ frames := 7, cells := 1, slots := 6, locals := 136 } : Room) s m ([.ref x, .int xv, .int yv, .ref na, .ref ma] : List Value).toArray below meth c H locs 0 0 (MQ below (zRQ D (zT cI cC cM cB cJ) (pG cI cC cM cB ad t sg sz r x h ah na ma wr (k + 1)) (some (.int 1)) A) ([.ref x, .int xv, .int yv, .ref na, .ref ma] : List Value).toArray s 1 6 A) (F0 m 871 ls [.int (sLim st), .int (yv >>> (3 &&& 31)), .int (nI (6 + st)), .ref na]) := by
            intro H locs hP hD hS ls hl
            refine z_callS1 (rest := [.int (nI (6 + st)), .ref na]) S (c_L_at (yv >>> (3 &&& 31)) (sLim st) (sLim_n0 (by omega))) qm_L_26 t_L_at ⟨Nat.le_of_ble_eq_true rfl, Nat.le_of_ble_eq_true rfl⟩ rfl rfl hN hK hP hD hS hA rfl hl.1 rfl (Nat.le_of_ble_eq_true rfl) dL_members_871 ⟨Nat.le_of_ble_eq_true rfl, Nat.le_of_ble_eq_true rfl⟩ (fun H locs hP hD hS => ?_)
            refine z_iast (ws2 := xw0 cI cC cM cB ad z t sg sz r x h ah (nI nx) (nI kp) zh (lwS cI na ma (upd z st (atP (yv >>> (3 &&& 31)) (sLim st))) kp wr)) hx hb hK hP hD hS (139 + (0)) 0 ((xw_r).trans (lw_0)) rfl (vp_in_nI (show 6 + st < 15 by omega) (by omega)) dL_members_874 ((xw_rs).trans (congrArg (fun w_ => xw0 cI cC cM cB ad z t sg sz r x h ah (nI nx) (nI kp) zh w_) (z_ixw rfl (by omega) (fun q_ => (lwS cI na ma z kp wr).set 0 (na, .inl (cI, 15, .inl (upd (nfn z kp) q_ (atP (yv >>> (3 &&& 31)) (sLim st)))))) (lw_wx (by omega) (by omega) (nix_s st (by omega)))))) (fun H locs hP hD hS => ?_)
            refine lv_aload_n hx hb dL_members_875 rfl (lv_at hl 3 rfl) ?_
            refine lv_iconst (v := 5) hx hb dL_members_876 (by decide) ?_
            refine va_iald hx hb hK hP (139 + (0)) 0 ((xw_r).trans (lw_0)) rfl (vp_in_nI (show 5 < 15 by decide) (by omega)) dL_members_877 ?_
            refine z_top (v2 := .int (nI kp)) (congrArg Value.int (nf_5 rfl)) ?_
            have J890_1 : ∀ (H : Heap) (locs : List Loc), va_P D vwCl (xw0 cI cC cM cB ad z t sg sz r x h ah (nI nx) (nI kp) zh (lwS cI na ma (upd z st (atP (yv >>> (3 &&& 31)) (sLim st))) (min (kp + 1) 6) wr)) H → va_D A (xw0 cI cC cM cB ad z t sg sz r x h ah (nI nx) (nI kp) zh (lwS cI na ma (upd z st (atP (yv >>> (3 &&& 31)) (sLim st))) (min (kp + 1) 6) wr)) → va_S A s.heap H locs → ∀ ls : Array Slot, lv_has ls 12 [(0, .ref x), (1, .int xv), (2, .int yv), (3, .ref na), (4, .ref ma), (5, .int (atP xv 12)), (6, .int (nI a)), (7, .int (nI b)), (8, .int (nI sk)), (9, .int (nI st)), (10, .int (z st))] → W p l e ({ frames := 7, cells := 1, slots := 6, locals := 136 } : Room) s m ([.ref x, .int xv, .int yv, .ref na, .ref ma] : List Value).toArray below meth c H locs 0 0 (MQ below (zRQ D (zT cI cC cM cB cJ) (pG cI cC cM cB ad t sg sz r x h ah na ma wr (k + 1)) (some (.int 1)) A) ([.ref x, .int xv, .int yv, .ref na, .ref ma] : List Value).toArray s 1 6 A) (F0 m 890 ls []) := by
              intro H locs hP hD hS ls hl
              refine lv_aload_n hx hb dL_members_890 rfl (lv_at hl 0 rfl) ?_
              refine lv_iload hx hb dL_members_891 (lv_at hl 9 rfl) ?_
              refine lv_aload_n hx hb dL_members_893 rfl (lv_at hl 3 rfl) ?_
              refine lv_bipush (v := 6) hx hb dL_members_894 (by decide) ?_
              refine lv_iload hx hb dL_members_896 (lv_at hl 9 rfl) ?_
              refine lv_iadd hx hb dL_members_898  ?_
              refine z_top (v2 := .int (nI (6 + st))) (congrArg Value.int (nI_add 6 st)) ?_
              refine va_iald hx hb hK hP (139 + (0)) 0 ((xw_r).trans (lw_0)) rfl (vp_in_nI (show 6 + st < 15 by omega) (by omega)) dL_members_899 ?_
              refine z_top (v2 := .int (atP (yv >>> (3 &&& 31)) (sLim st))) (congrArg Value.int ((nf_s rfl (by omega)).trans (upd_eq rfl))) ?_
              have hM := c_X5_set (l := l) (D := D) (cI := cI) (cC := cC) (cM := cM) (cB := cB) (cJ := cJ) (ad := ad) (z := z) (t := t) (h := h) (ah := ah) (zh := zh) (x := x) (sg := sg) (r := r) (sz := sz) (nx := nx) (kp := kp) (wr := lwS cI na ma (upd z st (atP (yv >>> (3 &&& 31)) (sLim st))) (min (kp + 1) 6) wr) hfl (n := n) (by omega) hz hnx hkp hB (nI st) (atP (yv >>> (3 &&& 31)) (sLim st))
              rw [cl_nI (show st < 2 ^ 31 by omega)] at hM
              refine z_callX (rest := []) S hM qm_L_57 v_X5_set ⟨Nat.le_of_ble_eq_true rfl, Nat.le_of_ble_eq_true rfl⟩ rfl rfl hJ hN hK hP hD hS hA 22 xw_x rfl rfl hl.1 rfl (Nat.le_of_ble_eq_true rfl) dL_members_900 ⟨Nat.le_of_ble_eq_true rfl, Nat.le_of_ble_eq_true rfl⟩ (fun _ H locs hP hD hS => ?_) (fun q_ => absurd (kg_set (by omega) (set_in (by omega))) q_)
              refine W.eq (g2 := F0 m 903 ls [.int (z st)]) rfl ?_
              refine lv_iload hx hb dL_members_903 (lv_at hl 10 rfl) ?_
              refine lv_icmp_ne (tgt := 912) hx hb dL_members_905 (by decide) (fun c5 => absurd c5 (not_not_intro rfl)) (fun c5 => ?_)
              refine lv_iconst (v := 1) hx hb dL_members_908 (by decide) ?_
              refine lv_goto (tgt := 913) hx hb dL_members_909 (by decide) ?_
              exact z_zretR hx hb hr hlocks hP hD hK hS (pg_mk (ps_set hI (by omega) (by omega) (set_in (by omega))) (fun _ _ _ _ => rfl) (fun _ _ => rfl) rfl) rfl rfl dL_members_913
            refine lv_bipush (v := 6) hx hb dL_members_878 (by decide) ?_
            refine lv_icmp_ge (tgt := 890) hx hb dL_members_880 (by decide) (fun c6 => ?_) (fun c6 => ?_)
            · have c6 := z_nlt c6
              have hP := va_P_eq (w2 := xw0 cI cC cM cB ad z t sg sz r x h ah (nI nx) (nI kp) zh (lwS cI na ma (upd z st (atP (yv >>> (3 &&& 31)) (sLim st))) (min (kp + 1) 6) wr)) (congrArg (fun q_ => xw0 cI cC cM cB ad z t sg sz r x h ah (nI nx) (nI kp) zh (lwS cI na ma (upd z st (atP (yv >>> (3 &&& 31)) (sLim st))) q_ wr)) (show kp = min (kp + 1) 6 by have : ¬ kp < 6 := fun q => c6 ((nI_lti (a := kp) (b := 6) (by omega) (by omega)).mpr q); omega)) hP
              have hD := va_D_eq (w2 := xw0 cI cC cM cB ad z t sg sz r x h ah (nI nx) (nI kp) zh (lwS cI na ma (upd z st (atP (yv >>> (3 &&& 31)) (sLim st))) (min (kp + 1) 6) wr)) (congrArg (fun q_ => xw0 cI cC cM cB ad z t sg sz r x h ah (nI nx) (nI kp) zh (lwS cI na ma (upd z st (atP (yv >>> (3 &&& 31)) (sLim st))) q_ wr)) (show kp = min (kp + 1) 6 by have : ¬ kp < 6 := fun q => c6 ((nI_lti (a := kp) (b := 6) (by omega) (by omega)).mpr q); omega)) hD
              exact J890_1 _ _ hP hD hS ls (lv_sub hl [0, 1, 2, 3, 4, 5, 6, 7, 8, 9, 10] rfl)
            · have c6 := z_lt c6
              refine lv_aload_n hx hb dL_members_883 rfl (lv_at hl 3 rfl) ?_
              refine lv_iconst (v := 5) hx hb dL_members_884 (by decide) ?_
              refine lv_dup2_11 hx hb dL_members_885 rfl rfl ?_
              refine va_iald hx hb hK hP (139 + (0)) 0 ((xw_r).trans (lw_0)) rfl (vp_in_nI (show 5 < 15 by decide) (by omega)) dL_members_886 ?_
              refine z_top (v2 := .int (nI kp)) (congrArg Value.int (nf_5 rfl)) ?_
              refine lv_iconst (v := 1) hx hb dL_members_887 (by decide) ?_
              refine lv_iadd hx hb dL_members_888  ?_
              refine z_top (v2 := .int (nI (kp + 1))) (congrArg Value.int (nI_add kp 1)) ?_
              refine z_iast (ws2 := xw0 cI cC cM cB ad z t sg sz r x h ah (nI nx) (nI kp) zh (lwS cI na ma (upd z st (atP (yv >>> (3 &&& 31)) (sLim st))) (kp + 1) wr)) hx hb hK hP hD hS (139 + (0)) 0 ((xw_r).trans (lw_0)) rfl (vp_in_nI (show 5 < 15 by decide) (by omega)) dL_members_889 ((xw_rs).trans (congrArg (fun w_ => xw0 cI cC cM cB ad z t sg sz r x h ah (nI nx) (nI kp) zh w_) (z_ixw (k := 5) rfl (by omega) (fun q_ => (lwS cI na ma (upd z st (atP (yv >>> (3 &&& 31)) (sLim st))) kp wr).set 0 (na, .inl (cI, 15, .inl (upd (nfn (upd z st (atP (yv >>> (3 &&& 31)) (sLim st))) kp) q_ (nI (kp + 1)))))) lw_wk))) (fun H locs hP hD hS => ?_)
              have hP := va_P_eq (w2 := xw0 cI cC cM cB ad z t sg sz r x h ah (nI nx) (nI kp) zh (lwS cI na ma (upd z st (atP (yv >>> (3 &&& 31)) (sLim st))) (min (kp + 1) 6) wr)) (congrArg (fun q_ => xw0 cI cC cM cB ad z t sg sz r x h ah (nI nx) (nI kp) zh (lwS cI na ma (upd z st (atP (yv >>> (3 &&& 31)) (sLim st))) q_ wr)) (show kp + 1 = min (kp + 1) 6 by have := (nI_lti (a := kp) (b := 6) (by omega) (by omega)).mp c6; omega)) hP
              have hD := va_D_eq (w2 := xw0 cI cC cM cB ad z t sg sz r x h ah (nI nx) (nI kp) zh (lwS cI na ma (upd z st (atP (yv >>> (3 &&& 31)) (sLim st))) (min (kp + 1) 6) wr)) (congrArg (fun q_ => xw0 cI cC cM cB ad z t sg sz r x h ah (nI nx) (nI kp) zh (lwS cI na ma (upd z st (atP (yv >>> (3 &&& 31)) (sLim st))) q_ wr)) (show kp + 1 = min (kp + 1) 6 by have := (nI_lti (a := kp) (b := 6) (by omega) (by omega)).mp c6; omega)) hD
              exact J890_1 _ _ hP hD hS ls (lv_sub hl [0, 1, 2, 3, 4, 5, 6, 7, 8, 9, 10] rfl)
          refine lv_if_ne (tgt := 834) hx hb dL_members_825 (by decide) (fun c7 => ?_) (fun c7 => ?_)
          · skip
            refine lv_iload hx hb dL_members_834 (lv_at hl 1 rfl) ?_
            refine lv_iconst (v := 1) hx hb dL_members_836 (by decide) ?_
            refine lv_icmp_ne (tgt := 846) hx hb dL_members_837 (by decide) (fun c8 => ?_) (fun c8 => ?_)
            · skip
              refine lv_iload hx hb dL_members_846 (lv_at hl 1 rfl) ?_
              refine lv_iconst (v := 2) hx hb dL_members_848 (by decide) ?_
              refine lv_icmp_ne (tgt := 857) hx hb dL_members_849 (by decide) (fun c9 => ?_) (fun c9 => ?_)
              · skip
                refine lv_iload hx hb dL_members_857 (lv_at hl 1 rfl) ?_
                refine lv_iconst (v := 3) hx hb dL_members_859 (by decide) ?_
                refine lv_icmp_ne (tgt := 868) hx hb dL_members_860 (by decide) (fun c10 => ?_) (fun c10 => ?_)
                · skip
                  refine lv_sipush (v := 301) hx hb dL_members_868 (by decide) ?_
                  refine z_top (v2 := .int (sLim st)) (congrArg Value.int ((show sLim st = 301 by unfold sLim; rw [if_neg c7, if_neg c8, if_neg c9, if_neg c10]).symm)) ?_
                  exact J871_1 _ _ hP hD hS ls (lv_sub hl [2, 3, 4, 5, 6, 7, 8, 9, 10, 1, 0] rfl)
                · skip
                  refine lv_bipush (v := 101) hx hb dL_members_863 (by decide) ?_
                  refine lv_goto (tgt := 871) hx hb dL_members_865 (by decide) ?_
                  refine z_top (v2 := .int (sLim st)) (congrArg Value.int ((show sLim st = 101 by unfold sLim; rw [if_neg c7, if_neg c8, if_neg c9, if_pos c10]).symm)) ?_
                  exact J871_1 _ _ hP hD hS ls (lv_sub hl [2, 3, 4, 5, 6, 7, 8, 9, 10, 1, 0] rfl)
              · skip
                refine lv_bipush (v := 6) hx hb dL_members_852 (by decide) ?_
                refine lv_goto (tgt := 871) hx hb dL_members_854 (by decide) ?_
                refine z_top (v2 := .int (sLim st)) (congrArg Value.int ((show sLim st = 6 by unfold sLim; rw [if_neg c7, if_neg c8, if_pos c9]).symm)) ?_
                exact J871_1 _ _ hP hD hS ls (lv_sub hl [2, 3, 4, 5, 6, 7, 8, 9, 10, 1, 0] rfl)
            · skip
              refine lv_sipush (v := 1000) hx hb dL_members_840 (by decide) ?_
              refine lv_goto (tgt := 871) hx hb dL_members_843 (by decide) ?_
              refine z_top (v2 := .int (sLim st)) (congrArg Value.int ((show sLim st = 1000 by unfold sLim; rw [if_neg c7, if_pos c8]).symm)) ?_
              exact J871_1 _ _ hP hD hS ls (lv_sub hl [2, 3, 4, 5, 6, 7, 8, 9, 10, 1, 0] rfl)
          · skip
            refine lv_sipush (v := 2000) hx hb dL_members_828 (by decide) ?_
            refine lv_goto (tgt := 871) hx hb dL_members_831 (by decide) ?_
            refine z_top (v2 := .int (sLim st)) (congrArg Value.int ((show sLim st = 2000 by unfold sLim; rw [if_pos c7]).symm)) ?_
            exact J871_1 _ _ hP hD hS ls (lv_sub hl [2, 3, 4, 5, 6, 7, 8, 9, 10, 1, 0] rfl)
        · have c4 := z_lt c4
          refine lv_iconst (v := 1) hx hb dL_members_692 (by decide) ?_
          refine lv_iload_n hx hb dL_members_693 rfl (lv_at hl 2 rfl) ?_
          refine lv_iconst (v := 4) hx hb dL_members_694 (by decide) ?_
          refine lv_ishr hx hb dL_members_695  ?_
          refine lv_sipush (v := 200) hx hb dL_members_696 (by decide) ?_
          refine z_callS1 (rest := [.int 1]) S (c_L_at (yv >>> (4 &&& 31)) 200 (by decide)) qm_L_26 t_L_at ⟨Nat.le_of_ble_eq_true rfl, Nat.le_of_ble_eq_true rfl⟩ rfl rfl hN hK hP hD hS hA rfl hl.1 rfl (Nat.le_of_ble_eq_true rfl) dL_members_699 ⟨Nat.le_of_ble_eq_true rfl, Nat.le_of_ble_eq_true rfl⟩ (fun H locs hP hD hS => ?_)
          obtain ⟨m_, h_m_, e_m_⟩ := at_nat (x := (yv >>> (4 &&& 31))) (N := 200) (by omega) (by omega)
          refine z_top (v2 := .int (nI m_)) (congrArg Value.int e_m_) ?_
          refine lv_iadd hx hb dL_members_702  ?_
          refine z_top (v2 := .int (nI (1 + m_))) (congrArg Value.int (nI_add 1 m_)) ?_
          refine lv_istore (lv' := [(9, .int (nI (1 + m_))), (0, .ref x), (1, .int xv), (2, .int yv), (3, .ref na), (4, .ref ma), (5, .int (atP xv 12)), (6, .int (nI a)), (7, .int (nI b)), (8, .int (nI sk))]) hx hb dL_members_703 hl (by decide) rfl (fun ls hl => ?_)
          refine lv_aload hx hb dL_members_705 (lv_at hl 5 rfl) ?_
          refine lv_bipush (v := 16) hx hb dL_members_707 (by decide) ?_
          refine lv_iload hx hb dL_members_709 (lv_at hl 7 rfl) ?_
          refine lv_imul hx hb dL_members_711 ?_
          refine z_top (v2 := .int (nI (16 * a))) (congrArg Value.int (pk_mul 16 a)) ?_
          refine va_iald hx hb hK hP (139 + (1)) 0 ((xw_r).trans (lw_1)) rfl (vp_in_nI (show 16 * a < 64 by omega) (by omega)) dL_members_712 ?_
          refine z_top (v2 := .int (z (14 + 16 * a))) (congrArg Value.int ((lm_at rfl (show 16 * a < 64 by omega) (show 14 + (16 * a) = 14 + 16 * a by omega)).trans (rfl))) ?_
          refine lv_if_eq (tgt := 731) hx hb dL_members_713 (by decide) (fun c11 => ?_) (fun c11 => ?_)
          · skip
            refine lv_iconst (v := 1) hx hb dL_members_731 (by decide) ?_
            refine W.widen (k := 1) (n := 6) (by decide) (by decide) ?_
            exact z_zretR hx hb hr hlocks hP hD hK hS (pg_id (pI_same hI (by omega))) rfl rfl dL_members_732
          · skip
            refine lv_aload hx hb dL_members_716 (lv_at hl 5 rfl) ?_
            refine lv_bipush (v := 16) hx hb dL_members_718 (by decide) ?_
            refine lv_iload hx hb dL_members_720 (lv_at hl 7 rfl) ?_
            refine lv_imul hx hb dL_members_722 ?_
            refine z_top (v2 := .int (nI (16 * a))) (congrArg Value.int (pk_mul 16 a)) ?_
            refine lv_iconst (v := 1) hx hb dL_members_723 (by decide) ?_
            refine lv_iadd hx hb dL_members_724  ?_
            refine z_top (v2 := .int (nI (16 * a + 1))) (congrArg Value.int (nI_add (16 * a) 1)) ?_
            refine va_iald hx hb hK hP (139 + (1)) 0 ((xw_r).trans (lw_1)) rfl (vp_in_nI (show 16 * a + 1 < 64 by omega) (by omega)) dL_members_725 ?_
            refine z_top (v2 := .int (z (14 + 16 * a + 1))) (congrArg Value.int ((lm_at rfl (show 16 * a + 1 < 64 by omega) (show 14 + (16 * a + 1) = 14 + 16 * a + 1 by omega)).trans (rfl))) ?_
            refine lv_iload hx hb dL_members_726 (lv_at hl 0 rfl) ?_
            refine lv_icmp_ge (tgt := 733) hx hb dL_members_728 (by decide) (fun c12 => ?_) (fun c12 => ?_)
            · have c12 := z_nlt c12
              refine lv_aload hx hb dL_members_733 (lv_at hl 5 rfl) ?_
              refine lv_bipush (v := 16) hx hb dL_members_735 (by decide) ?_
              refine lv_iload hx hb dL_members_737 (lv_at hl 7 rfl) ?_
              refine lv_imul hx hb dL_members_739 ?_
              refine z_top (v2 := .int (nI (16 * a))) (congrArg Value.int (pk_mul 16 a)) ?_
              refine lv_iconst (v := 1) hx hb dL_members_740 (by decide) ?_
              refine lv_iadd hx hb dL_members_741  ?_
              refine z_top (v2 := .int (nI (16 * a + 1))) (congrArg Value.int (nI_add (16 * a) 1)) ?_
              refine lv_dup2_11 hx hb dL_members_742 rfl rfl ?_
              refine va_iald hx hb hK hP (139 + (1)) 0 ((xw_r).trans (lw_1)) rfl (vp_in_nI (show 16 * a + 1 < 64 by omega) (by omega)) dL_members_743 ?_
              refine z_top (v2 := .int (z (14 + 16 * a + 1))) (congrArg Value.int ((lm_at rfl (show 16 * a + 1 < 64 by omega) (show 14 + (16 * a + 1) = 14 + 16 * a + 1 by omega)).trans (rfl))) ?_
              refine lv_iload hx hb dL_members_744 (lv_at hl 0 rfl) ?_
              refine lv_isub hx hb dL_members_746  ?_
              refine z_iast (ws2 := xw0 cI cC cM cB ad z t sg sz r x h ah (nI nx) (nI kp) zh (lwS cI na ma (upd z (14 + 16 * a + 1) ((z (14 + 16 * a + 1)) - (nI (1 + m_)))) kp wr)) hx hb hK hP hD hS (139 + (1)) 0 ((xw_r).trans (lw_1)) rfl (vp_in_nI (show 16 * a + 1 < 64 by omega) (by omega)) dL_members_747 ((xw_rs).trans (congrArg (fun w_ => xw0 cI cC cM cB ad z t sg sz r x h ah (nI nx) (nI kp) zh w_) (z_ixw rfl (show 16 * a + 1 < 2 ^ 31 by omega) (fun q_ => (lwS cI na ma z kp wr).set 1 (ma, .inl (cI, 64, .inl (upd (mfn z) q_ ((z (14 + 16 * a + 1)) - (nI (1 + m_))))))) (lw_wm (show 16 * a + 1 < 64 by omega) (show 14 + (16 * a + 1) = 14 + 16 * a + 1 by omega))))) (fun H locs hP hD hS => ?_)
              refine lv_aload_n hx hb dL_members_748 rfl (lv_at hl 4 rfl) ?_
              refine lv_iconst (v := 1) hx hb dL_members_749 (by decide) ?_
              refine lv_dup2_11 hx hb dL_members_750 rfl rfl ?_
              refine va_iald hx hb hK hP (139 + (0)) 0 ((xw_r).trans (lw_0)) rfl (vp_in_nI (show 1 < 15 by decide) (by omega)) dL_members_751 ?_
              refine z_top (v2 := .int (z 6)) (congrArg Value.int ((nf_1 rfl).trans ((upd_ne (by omega)).trans (rfl)))) ?_
              refine lv_iload hx hb dL_members_752 (lv_at hl 0 rfl) ?_
              refine lv_iadd hx hb dL_members_754  ?_
              refine z_iast (ws2 := xw0 cI cC cM cB ad z t sg sz r x h ah (nI nx) (nI kp) zh (lwS cI na ma (upd (upd z (14 + 16 * a + 1) ((z (14 + 16 * a + 1)) - (nI (1 + m_)))) 6 ((z 6) + (nI (1 + m_)))) kp wr)) hx hb hK hP hD hS (139 + (0)) 0 ((xw_r).trans (lw_0)) rfl (vp_in_nI (show 1 < 15 by decide) (by omega)) dL_members_755 ((xw_rs).trans (congrArg (fun w_ => xw0 cI cC cM cB ad z t sg sz r x h ah (nI nx) (nI kp) zh w_) (z_ixw (k := 1) rfl (by omega) (fun q_ => (lwS cI na ma (upd z (14 + 16 * a + 1) ((z (14 + 16 * a + 1)) - (nI (1 + m_)))) kp wr).set 0 (na, .inl (cI, 15, .inl (upd (nfn (upd z (14 + 16 * a + 1) ((z (14 + 16 * a + 1)) - (nI (1 + m_)))) kp) q_ ((z 6) + (nI (1 + m_))))))) (lw_wx (by decide) (by decide) rfl)))) (fun H locs hP hD hS => ?_)
              refine lv_aload_n hx hb dL_members_756 rfl (lv_at hl 4 rfl) ?_
              refine lv_iconst (v := 5) hx hb dL_members_757 (by decide) ?_
              refine va_iald hx hb hK hP (139 + (0)) 0 ((xw_r).trans (lw_0)) rfl (vp_in_nI (show 5 < 15 by decide) (by omega)) dL_members_758 ?_
              refine z_top (v2 := .int (nI kp)) (congrArg Value.int (nf_5 rfl)) ?_
              refine lv_bipush (v := 6) hx hb dL_members_759 (by decide) ?_
              have J771_1 : ∀ (H : Heap) (locs : List Loc), va_P D vwCl (xw0 cI cC cM cB ad z t sg sz r x h ah (nI nx) (nI kp) zh (lwS cI na ma (upd (upd z (14 + 16 * a + 1) ((z (14 + 16 * a + 1)) - (nI (1 + m_)))) 6 ((z 6) + (nI (1 + m_)))) (min (kp + 1) 6) wr)) H → va_D A (xw0 cI cC cM cB ad z t sg sz r x h ah (nI nx) (nI kp) zh (lwS cI na ma (upd (upd z (14 + 16 * a + 1) ((z (14 + 16 * a + 1)) - (nI (1 + m_)))) 6 ((z 6) + (nI (1 + m_)))) (min (kp + 1) 6) wr)) → va_S A s.heap H locs → ∀ ls : Array Slot, lv_has ls 12 [(0, .ref x), (1, .int xv), (2, .int yv), (3, .ref na), (4, .ref ma), (5, .int (atP xv 12)), (6, .int (nI a)), (7, .int (nI b)), (8, .int (nI sk)), (9, .int (nI (1 + m_)))] → W p l e ({ frames := 7, cells := 1, slots := 6, locals := 136 } : Room) s m ([.ref x, .int xv, .int yv, .ref na, .ref ma] : List Value).toArray below meth c H locs 0 0 (MQ below (zRQ D (zT cI cC cM cB cJ) (pG cI cC cM cB ad t sg sz r x h ah na ma wr (k + 1)) (some (.int 1)) A) ([.ref x, .int xv, .int yv, .ref na, .ref ma] : List Value).toArray s 1 6 A) (F0 m 771 ls []) := by
                intro H locs hP hD hS ls hl
                refine lv_aload_n hx hb dL_members_771 rfl (lv_at hl 0 rfl) ?_
                refine lv_iload hx hb dL_members_772 (lv_at hl 6 rfl) ?_
                refine lv_iload hx hb dL_members_774 (lv_at hl 9 rfl) ?_
                have hM := c_X5_donate (l := l) (D := D) (cI := cI) (cC := cC) (cM := cM) (cB := cB) (cJ := cJ) (ad := ad) (z := z) (t := t) (h := h) (ah := ah) (zh := zh) (x := x) (sg := sg) (r := r) (sz := sz) (nx := nx) (kp := kp) (wr := lwS cI na ma (upd (upd z (14 + 16 * a + 1) ((z (14 + 16 * a + 1)) - (nI (1 + m_)))) 6 ((z 6) + (nI (1 + m_)))) (min (kp + 1) 6) wr) hfl (n := n) (by omega) hz hnx hkp hB (nI a) (nI (1 + m_))
                rw [cl_nI (show a < 2 ^ 31 by omega)] at hM
                refine z_callX (rest := []) S hM qm_L_54 v_X5_donate ⟨Nat.le_of_ble_eq_true rfl, Nat.le_of_ble_eq_true rfl⟩ rfl rfl hJ hN hK hP hD hS hA 22 xw_x rfl rfl hl.1 rfl (Nat.le_of_ble_eq_true rfl) dL_members_776 ⟨Nat.le_of_ble_eq_true rfl, Nat.le_of_ble_eq_true rfl⟩ (fun _ H locs hP hD hS => ?_) (fun q_ => absurd (kg_donate (by omega) (by omega) (mn_in (N := 999) (by omega) (by omega)) c11 c12) q_)
                refine W.eq (g2 := F0 m 779 ls [.int (z (14 + 16 * a + 1) - nI (1 + m_))]) rfl ?_
                refine lv_aload hx hb dL_members_779 (lv_at hl 4 rfl) ?_
                refine lv_bipush (v := 16) hx hb dL_members_781 (by decide) ?_
                refine lv_iload hx hb dL_members_783 (lv_at hl 6 rfl) ?_
                refine lv_imul hx hb dL_members_785 ?_
                refine z_top (v2 := .int (nI (16 * a))) (congrArg Value.int (pk_mul 16 a)) ?_
                refine lv_iconst (v := 1) hx hb dL_members_786 (by decide) ?_
                refine lv_iadd hx hb dL_members_787  ?_
                refine z_top (v2 := .int (nI (16 * a + 1))) (congrArg Value.int (nI_add (16 * a) 1)) ?_
                refine va_iald hx hb hK hP (139 + (1)) 0 ((xw_r).trans (lw_1)) rfl (vp_in_nI (show 16 * a + 1 < 64 by omega) (by omega)) dL_members_788 ?_
                refine z_top (v2 := .int ((z (14 + 16 * a + 1)) - (nI (1 + m_)))) (congrArg Value.int ((lm_at rfl (show 16 * a + 1 < 64 by omega) (show 14 + (16 * a + 1) = 14 + 16 * a + 1 by omega)).trans ((upd_ne (by omega)).trans (upd_eq rfl)))) ?_
                refine lv_icmp_ne (tgt := 796) hx hb dL_members_789 (by decide) (fun c13 => absurd c13 (not_not_intro rfl)) (fun c13 => ?_)
                refine lv_iconst (v := 1) hx hb dL_members_792 (by decide) ?_
                refine lv_goto (tgt := 797) hx hb dL_members_793 (by decide) ?_
                exact z_zretR hx hb hr hlocks hP hD hK hS (pg_mk (ps_pay hk hI (by omega) (by omega) (mn_bt (N := 999) (by omega) (by omega)) c12) (fun _ _ _ _ => rfl) (fun _ _ => rfl) rfl) rfl rfl dL_members_797
              refine lv_icmp_ge (tgt := 771) hx hb dL_members_761 (by decide) (fun c14 => ?_) (fun c14 => ?_)
              · have c14 := z_nlt c14
                have hP := va_P_eq (w2 := xw0 cI cC cM cB ad z t sg sz r x h ah (nI nx) (nI kp) zh (lwS cI na ma (upd (upd z (14 + 16 * a + 1) ((z (14 + 16 * a + 1)) - (nI (1 + m_)))) 6 ((z 6) + (nI (1 + m_)))) (min (kp + 1) 6) wr)) (congrArg (fun q_ => xw0 cI cC cM cB ad z t sg sz r x h ah (nI nx) (nI kp) zh (lwS cI na ma (upd (upd z (14 + 16 * a + 1) ((z (14 + 16 * a + 1)) - (nI (1 + m_)))) 6 ((z 6) + (nI (1 + m_)))) q_ wr)) (show kp = min (kp + 1) 6 by have : ¬ kp < 6 := fun q => c14 ((nI_lti (a := kp) (b := 6) (by omega) (by omega)).mpr q); omega)) hP
                have hD := va_D_eq (w2 := xw0 cI cC cM cB ad z t sg sz r x h ah (nI nx) (nI kp) zh (lwS cI na ma (upd (upd z (14 + 16 * a + 1) ((z (14 + 16 * a + 1)) - (nI (1 + m_)))) 6 ((z 6) + (nI (1 + m_)))) (min (kp + 1) 6) wr)) (congrArg (fun q_ => xw0 cI cC cM cB ad z t sg sz r x h ah (nI nx) (nI kp) zh (lwS cI na ma (upd (upd z (14 + 16 * a + 1) ((z (14 + 16 * a + 1)) - (nI (1 + m_)))) 6 ((z 6) + (nI (1 + m_)))) q_ wr)) (show kp = min (kp + 1) 6 by have : ¬ kp < 6 := fun q => c14 ((nI_lti (a := kp) (b := 6) (by omega) (by omega)).mpr q); omega)) hD
                exact J771_1 _ _ hP hD hS ls (lv_sub hl [1, 2, 3, 4, 5, 6, 7, 8, 9, 0] rfl)
              · have c14 := z_lt c14
                refine lv_aload_n hx hb dL_members_764 rfl (lv_at hl 4 rfl) ?_
                refine lv_iconst (v := 5) hx hb dL_members_765 (by decide) ?_
                refine lv_dup2_11 hx hb dL_members_766 rfl rfl ?_
                refine va_iald hx hb hK hP (139 + (0)) 0 ((xw_r).trans (lw_0)) rfl (vp_in_nI (show 5 < 15 by decide) (by omega)) dL_members_767 ?_
                refine z_top (v2 := .int (nI kp)) (congrArg Value.int (nf_5 rfl)) ?_
                refine lv_iconst (v := 1) hx hb dL_members_768 (by decide) ?_
                refine lv_iadd hx hb dL_members_769  ?_
                refine z_top (v2 := .int (nI (kp + 1))) (congrArg Value.int (nI_add kp 1)) ?_
                refine z_iast (ws2 := xw0 cI cC cM cB ad z t sg sz r x h ah (nI nx) (nI kp) zh (lwS cI na ma (upd (upd z (14 + 16 * a + 1) ((z (14 + 16 * a + 1)) - (nI (1 + m_)))) 6 ((z 6) + (nI (1 + m_)))) (kp + 1) wr)) hx hb hK hP hD hS (139 + (0)) 0 ((xw_r).trans (lw_0)) rfl (vp_in_nI (show 5 < 15 by decide) (by omega)) dL_members_770 ((xw_rs).trans (congrArg (fun w_ => xw0 cI cC cM cB ad z t sg sz r x h ah (nI nx) (nI kp) zh w_) (z_ixw (k := 5) rfl (by omega) (fun q_ => (lwS cI na ma (upd (upd z (14 + 16 * a + 1) ((z (14 + 16 * a + 1)) - (nI (1 + m_)))) 6 ((z 6) + (nI (1 + m_)))) kp wr).set 0 (na, .inl (cI, 15, .inl (upd (nfn (upd (upd z (14 + 16 * a + 1) ((z (14 + 16 * a + 1)) - (nI (1 + m_)))) 6 ((z 6) + (nI (1 + m_)))) kp) q_ (nI (kp + 1)))))) lw_wk))) (fun H locs hP hD hS => ?_)
                have hP := va_P_eq (w2 := xw0 cI cC cM cB ad z t sg sz r x h ah (nI nx) (nI kp) zh (lwS cI na ma (upd (upd z (14 + 16 * a + 1) ((z (14 + 16 * a + 1)) - (nI (1 + m_)))) 6 ((z 6) + (nI (1 + m_)))) (min (kp + 1) 6) wr)) (congrArg (fun q_ => xw0 cI cC cM cB ad z t sg sz r x h ah (nI nx) (nI kp) zh (lwS cI na ma (upd (upd z (14 + 16 * a + 1) ((z (14 + 16 * a + 1)) - (nI (1 + m_)))) 6 ((z 6) + (nI (1 + m_)))) q_ wr)) (show kp + 1 = min (kp + 1) 6 by have := (nI_lti (a := kp) (b := 6) (by omega) (by omega)).mp c14; omega)) hP
                have hD := va_D_eq (w2 := xw0 cI cC cM cB ad z t sg sz r x h ah (nI nx) (nI kp) zh (lwS cI na ma (upd (upd z (14 + 16 * a + 1) ((z (14 + 16 * a + 1)) - (nI (1 + m_)))) 6 ((z 6) + (nI (1 + m_)))) (min (kp + 1) 6) wr)) (congrArg (fun q_ => xw0 cI cC cM cB ad z t sg sz r x h ah (nI nx) (nI kp) zh (lwS cI na ma (upd (upd z (14 + 16 * a + 1) ((z (14 + 16 * a + 1)) - (nI (1 + m_)))) 6 ((z 6) + (nI (1 + m_)))) q_ wr)) (show kp + 1 = min (kp + 1) 6 by have := (nI_lti (a := kp) (b := 6) (by omega) (by omega)).mp c14; omega)) hD
                exact J771_1 _ _ hP hD hS ls (lv_sub hl [1, 2, 3, 4, 5, 6, 7, 8, 9, 0] rfl)
            · have c12 := z_lt c12
              refine lv_iconst (v := 1) hx hb dL_members_731 (by decide) ?_
              refine W.widen (k := 1) (n := 6) (by decide) (by decide) ?_
              exact z_zretR hx hb hr hlocks hP hD hK hS (pg_id (pI_same hI (by omega))) rfl rfl dL_members_732
      refine lv_icmp_ne (tgt := 685) hx hb dL_members_503 (by decide) (fun c15 => ?_) (fun c15 => ?_)
      · skip
        exact J685_1 _ _ hP hD hS ls (lv_sub hl [3, 4, 5, 6, 7, 8, 2, 1, 0] rfl)
      · skip
        refine lv_iload_n hx hb dL_members_506 rfl (lv_at hl 5 rfl) ?_
        refine lv_bipush (v := 6) hx hb dL_members_507 (by decide) ?_
        refine lv_ishr hx hb dL_members_509  ?_
        refine lv_iconst (v := 4) hx hb dL_members_510 (by decide) ?_
        refine z_callS1 (rest := []) S (c_L_at (yv >>> (6 &&& 31)) 4 (by decide)) qm_L_26 t_L_at ⟨Nat.le_of_ble_eq_true rfl, Nat.le_of_ble_eq_true rfl⟩ rfl rfl hN hK hP hD hS hA rfl hl.1 rfl (Nat.le_of_ble_eq_true rfl) dL_members_511 ⟨Nat.le_of_ble_eq_true rfl, Nat.le_of_ble_eq_true rfl⟩ (fun H locs hP hD hS => ?_)
        refine lv_if_ne (tgt := 685) hx hb dL_members_514 (by decide) (fun c16 => ?_) (fun c16 => ?_)
        · skip
          exact J685_1 _ _ hP hD hS ls (lv_sub hl [3, 4, 5, 6, 7, 8, 2, 1, 0] rfl)
        · skip
          refine lv_aload hx hb dL_members_517 (lv_at hl 7 rfl) ?_
          refine lv_bipush (v := 16) hx hb dL_members_519 (by decide) ?_
          refine lv_iload hx hb dL_members_521 (lv_at hl 2 rfl) ?_
          refine lv_imul hx hb dL_members_523 ?_
          refine z_top (v2 := .int (nI (16 * a))) (congrArg Value.int (pk_mul 16 a)) ?_
          refine va_iald hx hb hK hP (139 + (1)) 0 ((xw_r).trans (lw_1)) rfl (vp_in_nI (show 16 * a < 64 by omega) (by omega)) dL_members_524 ?_
          refine z_top (v2 := .int (z (14 + 16 * a))) (congrArg Value.int ((lm_at rfl (show 16 * a < 64 by omega) (show 14 + (16 * a) = 14 + 16 * a by omega)).trans (rfl))) ?_
          refine lv_if_eq (tgt := 541) hx hb dL_members_525 (by decide) (fun c17 => ?_) (fun c17 => ?_)
          · skip
            refine lv_iconst (v := 1) hx hb dL_members_541 (by decide) ?_
            refine W.widen (k := 1) (n := 6) (by decide) (by decide) ?_
            exact z_zretR hx hb hr hlocks hP hD hK hS (pg_id (pI_same hI (by omega))) rfl rfl dL_members_542
          · skip
            refine lv_aload hx hb dL_members_528 (lv_at hl 7 rfl) ?_
            refine lv_bipush (v := 16) hx hb dL_members_530 (by decide) ?_
            refine lv_iload hx hb dL_members_532 (lv_at hl 2 rfl) ?_
            refine lv_imul hx hb dL_members_534 ?_
            refine z_top (v2 := .int (nI (16 * a))) (congrArg Value.int (pk_mul 16 a)) ?_
            refine lv_iconst (v := 1) hx hb dL_members_535 (by decide) ?_
            refine lv_iadd hx hb dL_members_536  ?_
            refine z_top (v2 := .int (nI (16 * a + 1))) (congrArg Value.int (nI_add (16 * a) 1)) ?_
            refine va_iald hx hb hK hP (139 + (1)) 0 ((xw_r).trans (lw_1)) rfl (vp_in_nI (show 16 * a + 1 < 64 by omega) (by omega)) dL_members_537 ?_
            refine z_top (v2 := .int (z (14 + 16 * a + 1))) (congrArg Value.int ((lm_at rfl (show 16 * a + 1 < 64 by omega) (show 14 + (16 * a + 1) = 14 + 16 * a + 1 by omega)).trans (rfl))) ?_
            refine lv_if_ge (tgt := 543) hx hb dL_members_538 (by decide) (fun c18 => ?_) (fun c18 => ?_)
            · have c18 := z_nlt c18
              rcases rOK_mot hR with hz10 | ⟨d, hd, hz10, hd1⟩
              · skip
                refine lv_aload hx hb dL_members_543 (lv_at hl 7 rfl) ?_
                refine lv_bipush (v := 16) hx hb dL_members_545 (by decide) ?_
                refine lv_iload hx hb dL_members_547 (lv_at hl 2 rfl) ?_
                refine lv_imul hx hb dL_members_549 ?_
                refine z_top (v2 := .int (nI (16 * a))) (congrArg Value.int (pk_mul 16 a)) ?_
                refine lv_iconst (v := 1) hx hb dL_members_550 (by decide) ?_
                refine lv_iadd hx hb dL_members_551  ?_
                refine z_top (v2 := .int (nI (16 * a + 1))) (congrArg Value.int (nI_add (16 * a) 1)) ?_
                refine va_iald hx hb hK hP (139 + (1)) 0 ((xw_r).trans (lw_1)) rfl (vp_in_nI (show 16 * a + 1 < 64 by omega) (by omega)) dL_members_552 ?_
                refine z_top (v2 := .int (z (14 + 16 * a + 1))) (congrArg Value.int ((lm_at rfl (show 16 * a + 1 < 64 by omega) (show 14 + (16 * a + 1) = 14 + 16 * a + 1 by omega)).trans (rfl))) ?_
                refine lv_istore (lv' := [(9, .int (z (14 + 16 * a + 1))), (8, .int (nI sk)), (7, .int (nI b)), (6, .int (nI a)), (0, .ref x), (1, .int xv), (2, .int yv), (3, .ref na), (4, .ref ma), (5, .int (atP xv 12))]) hx hb dL_members_553 hl (by decide) rfl (fun ls hl => ?_)
                refine lv_aload_n hx hb dL_members_555 rfl (lv_at hl 7 rfl) ?_
                refine lv_iconst (v := 1) hx hb dL_members_556 (by decide) ?_
                refine lv_dup2_11 hx hb dL_members_557 rfl rfl ?_
                refine va_iald hx hb hK hP (139 + (0)) 0 ((xw_r).trans (lw_0)) rfl (vp_in_nI (show 1 < 15 by decide) (by omega)) dL_members_558 ?_
                refine z_top (v2 := .int (z 6)) (congrArg Value.int ((nf_1 rfl).trans (rfl))) ?_
                refine lv_iload hx hb dL_members_559 (lv_at hl 0 rfl) ?_
                refine lv_iadd hx hb dL_members_561  ?_
                refine z_iast (ws2 := xw0 cI cC cM cB ad z t sg sz r x h ah (nI nx) (nI kp) zh (lwS cI na ma (upd z 6 ((z 6) + (z (14 + 16 * a + 1)))) kp wr)) hx hb hK hP hD hS (139 + (0)) 0 ((xw_r).trans (lw_0)) rfl (vp_in_nI (show 1 < 15 by decide) (by omega)) dL_members_562 ((xw_rs).trans (congrArg (fun w_ => xw0 cI cC cM cB ad z t sg sz r x h ah (nI nx) (nI kp) zh w_) (z_ixw (k := 1) rfl (by omega) (fun q_ => (lwS cI na ma z kp wr).set 0 (na, .inl (cI, 15, .inl (upd (nfn z kp) q_ ((z 6) + (z (14 + 16 * a + 1))))))) (lw_wx (by decide) (by decide) rfl)))) (fun H locs hP hD hS => ?_)
                refine lv_iconst (v := 0) hx hb dL_members_563 (by decide) ?_
                refine lv_istore (lv' := [(10, .int 0), (9, .int (z (14 + 16 * a + 1))), (8, .int (nI sk)), (7, .int (nI b)), (6, .int (nI a)), (0, .ref x), (1, .int xv), (2, .int yv), (3, .ref na), (4, .ref ma), (5, .int (atP xv 12))]) hx hb dL_members_564 hl (by decide) rfl (fun ls hl => ?_)
                refine lv_iload hx hb dL_members_566 (lv_at hl 0 rfl) ?_
                refine lv_iconst (v := 3) hx hb dL_members_568 (by decide) ?_
                refine lv_icmp_ge (tgt := 590) hx hb dL_members_569 (by decide) (fun c19 => absurd c19 (by decide)) (fun c19 => ?_)
                have c19 := z_lt c19
                refine lv_aload hx hb dL_members_572 (lv_at hl 9 rfl) ?_
                refine lv_bipush (v := 16) hx hb dL_members_574 (by decide) ?_
                refine lv_iload hx hb dL_members_576 (lv_at hl 4 rfl) ?_
                refine lv_imul hx hb dL_members_578 ?_
                refine z_top (v2 := .int (nI (16 * a))) (congrArg Value.int (pk_mul 16 a)) ?_
                refine lv_iload hx hb dL_members_579 (lv_at hl 0 rfl) ?_
                refine lv_iadd hx hb dL_members_581  ?_
                refine z_top (v2 := .int (nI (16 * a + 0))) (congrArg Value.int (nI_add (16 * a) 0)) ?_
                refine lv_iconst (v := 0) hx hb dL_members_582 (by decide) ?_
                refine z_iast (ws2 := xw0 cI cC cM cB ad z t sg sz r x h ah (nI nx) (nI kp) zh (lwS cI na ma (upd (upd z 6 ((z 6) + (z (14 + 16 * a + 1)))) (14 + 16 * a) 0) kp wr)) hx hb hK hP hD hS (139 + (1)) 0 ((xw_r).trans (lw_1)) rfl (vp_in_nI (show 16 * a + 0 < 64 by omega) (by omega)) dL_members_583 ((xw_rs).trans (congrArg (fun w_ => xw0 cI cC cM cB ad z t sg sz r x h ah (nI nx) (nI kp) zh w_) (z_ixw rfl (show 16 * a + 0 < 2 ^ 31 by omega) (fun q_ => (lwS cI na ma (upd z 6 ((z 6) + (z (14 + 16 * a + 1)))) kp wr).set 1 (ma, .inl (cI, 64, .inl (upd (mfn (upd z 6 ((z 6) + (z (14 + 16 * a + 1))))) q_ 0)))) (lw_wm (show 16 * a + 0 < 64 by omega) (show 14 + (16 * a + 0) = 14 + 16 * a by omega))))) (fun H locs hP hD hS => ?_)
                refine lv_iinc (v := 1) (lv' := [(10, .int 1), (9, .int (z (14 + 16 * a + 1))), (8, .int (nI sk)), (7, .int (nI b)), (6, .int (nI a)), (0, .ref x), (1, .int xv), (2, .int yv), (3, .ref na), (4, .ref ma), (5, .int (atP xv 12))]) hx hb dL_members_584 hl (k := 0) rfl (by decide) (by decide) rfl (fun ls hl => ?_)
                refine lv_goto (tgt := 566) hx hb dL_members_587 (by decide) ?_
                refine lv_iload hx hb dL_members_566 (lv_at hl 0 rfl) ?_
                refine lv_iconst (v := 3) hx hb dL_members_568 (by decide) ?_
                refine lv_icmp_ge (tgt := 590) hx hb dL_members_569 (by decide) (fun c20 => absurd c20 (by decide)) (fun c20 => ?_)
                have c20 := z_lt c20
                refine lv_aload hx hb dL_members_572 (lv_at hl 9 rfl) ?_
                refine lv_bipush (v := 16) hx hb dL_members_574 (by decide) ?_
                refine lv_iload hx hb dL_members_576 (lv_at hl 4 rfl) ?_
                refine lv_imul hx hb dL_members_578 ?_
                refine z_top (v2 := .int (nI (16 * a))) (congrArg Value.int (pk_mul 16 a)) ?_
                refine lv_iload hx hb dL_members_579 (lv_at hl 0 rfl) ?_
                refine lv_iadd hx hb dL_members_581  ?_
                refine z_top (v2 := .int (nI (16 * a + 1))) (congrArg Value.int (nI_add (16 * a) 1)) ?_
                refine lv_iconst (v := 0) hx hb dL_members_582 (by decide) ?_
                refine z_iast (ws2 := xw0 cI cC cM cB ad z t sg sz r x h ah (nI nx) (nI kp) zh (lwS cI na ma (upd (upd (upd z 6 ((z 6) + (z (14 + 16 * a + 1)))) (14 + 16 * a) 0) (14 + 16 * a + 1) 0) kp wr)) hx hb hK hP hD hS (139 + (1)) 0 ((xw_r).trans (lw_1)) rfl (vp_in_nI (show 16 * a + 1 < 64 by omega) (by omega)) dL_members_583 ((xw_rs).trans (congrArg (fun w_ => xw0 cI cC cM cB ad z t sg sz r x h ah (nI nx) (nI kp) zh w_) (z_ixw rfl (show 16 * a + 1 < 2 ^ 31 by omega) (fun q_ => (lwS cI na ma (upd (upd z 6 ((z 6) + (z (14 + 16 * a + 1)))) (14 + 16 * a) 0) kp wr).set 1 (ma, .inl (cI, 64, .inl (upd (mfn (upd (upd z 6 ((z 6) + (z (14 + 16 * a + 1)))) (14 + 16 * a) 0)) q_ 0)))) (lw_wm (show 16 * a + 1 < 64 by omega) (show 14 + (16 * a + 1) = 14 + 16 * a + 1 by omega))))) (fun H locs hP hD hS => ?_)
                refine lv_iinc (v := 2) (lv' := [(10, .int 2), (9, .int (z (14 + 16 * a + 1))), (8, .int (nI sk)), (7, .int (nI b)), (6, .int (nI a)), (0, .ref x), (1, .int xv), (2, .int yv), (3, .ref na), (4, .ref ma), (5, .int (atP xv 12))]) hx hb dL_members_584 hl (k := 0) rfl (by decide) (by decide) rfl (fun ls hl => ?_)
                refine lv_goto (tgt := 566) hx hb dL_members_587 (by decide) ?_
                refine lv_iload hx hb dL_members_566 (lv_at hl 0 rfl) ?_
                refine lv_iconst (v := 3) hx hb dL_members_568 (by decide) ?_
                refine lv_icmp_ge (tgt := 590) hx hb dL_members_569 (by decide) (fun c21 => absurd c21 (by decide)) (fun c21 => ?_)
                have c21 := z_lt c21
                refine lv_aload hx hb dL_members_572 (lv_at hl 9 rfl) ?_
                refine lv_bipush (v := 16) hx hb dL_members_574 (by decide) ?_
                refine lv_iload hx hb dL_members_576 (lv_at hl 4 rfl) ?_
                refine lv_imul hx hb dL_members_578 ?_
                refine z_top (v2 := .int (nI (16 * a))) (congrArg Value.int (pk_mul 16 a)) ?_
                refine lv_iload hx hb dL_members_579 (lv_at hl 0 rfl) ?_
                refine lv_iadd hx hb dL_members_581  ?_
                refine z_top (v2 := .int (nI (16 * a + 2))) (congrArg Value.int (nI_add (16 * a) 2)) ?_
                refine lv_iconst (v := 0) hx hb dL_members_582 (by decide) ?_
                refine z_iast (ws2 := xw0 cI cC cM cB ad z t sg sz r x h ah (nI nx) (nI kp) zh (lwS cI na ma (upd (upd (upd (upd z 6 ((z 6) + (z (14 + 16 * a + 1)))) (14 + 16 * a) 0) (14 + 16 * a + 1) 0) (14 + 16 * a + 2) 0) kp wr)) hx hb hK hP hD hS (139 + (1)) 0 ((xw_r).trans (lw_1)) rfl (vp_in_nI (show 16 * a + 2 < 64 by omega) (by omega)) dL_members_583 ((xw_rs).trans (congrArg (fun w_ => xw0 cI cC cM cB ad z t sg sz r x h ah (nI nx) (nI kp) zh w_) (z_ixw rfl (show 16 * a + 2 < 2 ^ 31 by omega) (fun q_ => (lwS cI na ma (upd (upd (upd z 6 ((z 6) + (z (14 + 16 * a + 1)))) (14 + 16 * a) 0) (14 + 16 * a + 1) 0) kp wr).set 1 (ma, .inl (cI, 64, .inl (upd (mfn (upd (upd (upd z 6 ((z 6) + (z (14 + 16 * a + 1)))) (14 + 16 * a) 0) (14 + 16 * a + 1) 0)) q_ 0)))) (lw_wm (show 16 * a + 2 < 64 by omega) (show 14 + (16 * a + 2) = 14 + 16 * a + 2 by omega))))) (fun H locs hP hD hS => ?_)
                refine lv_iinc (v := 3) (lv' := [(10, .int 3), (9, .int (z (14 + 16 * a + 1))), (8, .int (nI sk)), (7, .int (nI b)), (6, .int (nI a)), (0, .ref x), (1, .int xv), (2, .int yv), (3, .ref na), (4, .ref ma), (5, .int (atP xv 12))]) hx hb dL_members_584 hl (k := 0) rfl (by decide) (by decide) rfl (fun ls hl => ?_)
                refine lv_goto (tgt := 566) hx hb dL_members_587 (by decide) ?_
                refine lv_iload hx hb dL_members_566 (lv_at hl 0 rfl) ?_
                refine lv_iconst (v := 3) hx hb dL_members_568 (by decide) ?_
                refine lv_icmp_ge (tgt := 590) hx hb dL_members_569 (by decide) (fun c22 => ?_) (fun c22 => absurd (by decide) c22)
                have c22 := z_nlt c22
                refine lv_aload_n hx hb dL_members_590 rfl (lv_at hl 8 rfl) ?_
                refine lv_bipush (v := 13) hx hb dL_members_591 (by decide) ?_
                refine lv_dup2_11 hx hb dL_members_593 rfl rfl ?_
                refine va_iald hx hb hK hP (139 + (0)) 0 ((xw_r).trans (lw_0)) rfl (vp_in_nI (show 13 < 15 by decide) (by omega)) dL_members_594 ?_
                refine z_top (v2 := .int (z 12)) (congrArg Value.int ((nf_13 rfl).trans ((upd_ne (by omega)).trans ((upd_ne (by omega)).trans ((upd_ne (by omega)).trans ((upd_ne (by omega)).trans (rfl))))))) ?_
                refine lv_iconst (v := 1) hx hb dL_members_595 (by decide) ?_
                refine lv_iload hx hb dL_members_596 (lv_at hl 4 rfl) ?_
                refine lv_ishl hx hb dL_members_598  ?_
                refine lv_iconst (v := (-1)) hx hb dL_members_599 (by decide) ?_
                refine lv_ixor hx hb dL_members_600  ?_
                refine lv_iand hx hb dL_members_601  ?_
                refine z_iast (ws2 := xw0 cI cC cM cB ad z t sg sz r x h ah (nI nx) (nI kp) zh (lwS cI na ma (upd (upd (upd (upd (upd z 6 ((z 6) + (z (14 + 16 * a + 1)))) (14 + 16 * a) 0) (14 + 16 * a + 1) 0) (14 + 16 * a + 2) 0) 12 ((z 12) &&& ((1 <<< ((nI a) &&& 31)) ^^^ (-1)))) kp wr)) hx hb hK hP hD hS (139 + (0)) 0 ((xw_r).trans (lw_0)) rfl (vp_in_nI (show 13 < 15 by decide) (by omega)) dL_members_602 ((xw_rs).trans (congrArg (fun w_ => xw0 cI cC cM cB ad z t sg sz r x h ah (nI nx) (nI kp) zh w_) (z_ixw (k := 13) rfl (by omega) (fun q_ => (lwS cI na ma (upd (upd (upd (upd z 6 ((z 6) + (z (14 + 16 * a + 1)))) (14 + 16 * a) 0) (14 + 16 * a + 1) 0) (14 + 16 * a + 2) 0) kp wr).set 0 (na, .inl (cI, 15, .inl (upd (nfn (upd (upd (upd (upd z 6 ((z 6) + (z (14 + 16 * a + 1)))) (14 + 16 * a) 0) (14 + 16 * a + 1) 0) (14 + 16 * a + 2) 0) kp) q_ ((z 12) &&& ((1 <<< ((nI a) &&& 31)) ^^^ (-1))))))) (lw_wx (by decide) (by decide) rfl)))) (fun H locs hP hD hS => ?_)
                refine lv_aload_n hx hb dL_members_603 rfl (lv_at hl 8 rfl) ?_
                refine lv_bipush (v := 14) hx hb dL_members_604 (by decide) ?_
                refine lv_dup2_11 hx hb dL_members_606 rfl rfl ?_
                refine va_iald hx hb hK hP (139 + (0)) 0 ((xw_r).trans (lw_0)) rfl (vp_in_nI (show 14 < 15 by decide) (by omega)) dL_members_607 ?_
                refine z_top (v2 := .int (z 13)) (congrArg Value.int ((nf_14 rfl).trans ((upd_ne (by omega)).trans ((upd_ne (by omega)).trans ((upd_ne (by omega)).trans ((upd_ne (by omega)).trans ((upd_ne (by omega)).trans (rfl)))))))) ?_
                refine lv_iconst (v := 1) hx hb dL_members_608 (by decide) ?_
                refine lv_iload hx hb dL_members_609 (lv_at hl 4 rfl) ?_
                refine lv_ishl hx hb dL_members_611  ?_
                refine lv_iconst (v := (-1)) hx hb dL_members_612 (by decide) ?_
                refine lv_ixor hx hb dL_members_613  ?_
                refine lv_iand hx hb dL_members_614  ?_
                refine z_iast (ws2 := xw0 cI cC cM cB ad z t sg sz r x h ah (nI nx) (nI kp) zh (lwS cI na ma (upd (upd (upd (upd (upd (upd z 6 ((z 6) + (z (14 + 16 * a + 1)))) (14 + 16 * a) 0) (14 + 16 * a + 1) 0) (14 + 16 * a + 2) 0) 12 ((z 12) &&& ((1 <<< ((nI a) &&& 31)) ^^^ (-1)))) 13 ((z 13) &&& ((1 <<< ((nI a) &&& 31)) ^^^ (-1)))) kp wr)) hx hb hK hP hD hS (139 + (0)) 0 ((xw_r).trans (lw_0)) rfl (vp_in_nI (show 14 < 15 by decide) (by omega)) dL_members_615 ((xw_rs).trans (congrArg (fun w_ => xw0 cI cC cM cB ad z t sg sz r x h ah (nI nx) (nI kp) zh w_) (z_ixw (k := 14) rfl (by omega) (fun q_ => (lwS cI na ma (upd (upd (upd (upd (upd z 6 ((z 6) + (z (14 + 16 * a + 1)))) (14 + 16 * a) 0) (14 + 16 * a + 1) 0) (14 + 16 * a + 2) 0) 12 ((z 12) &&& ((1 <<< ((nI a) &&& 31)) ^^^ (-1)))) kp wr).set 0 (na, .inl (cI, 15, .inl (upd (nfn (upd (upd (upd (upd (upd z 6 ((z 6) + (z (14 + 16 * a + 1)))) (14 + 16 * a) 0) (14 + 16 * a + 1) 0) (14 + 16 * a + 2) 0) 12 ((z 12) &&& ((1 <<< ((nI a) &&& 31)) ^^^ (-1)))) kp) q_ ((z 13) &&& ((1 <<< ((nI a) &&& 31)) ^^^ (-1))))))) (lw_wx (by decide) (by decide) rfl)))) (fun H locs hP hD hS => ?_)
                refine lv_aload_n hx hb dL_members_616 rfl (lv_at hl 8 rfl) ?_
                refine lv_bipush (v := 11) hx hb dL_members_617 (by decide) ?_
                refine va_iald hx hb hK hP (139 + (0)) 0 ((xw_r).trans (lw_0)) rfl (vp_in_nI (show 11 < 15 by decide) (by omega)) dL_members_619 ?_
                refine z_top (v2 := .int (-1)) (congrArg Value.int ((nf_11 rfl).trans ((upd_ne (by omega)).trans ((upd_ne (by omega)).trans ((upd_ne (by omega)).trans ((upd_ne (by omega)).trans ((upd_ne (by omega)).trans ((upd_ne (by omega)).trans (hz10))))))))) ?_
                refine lv_iload hx hb dL_members_620 (lv_at hl 4 rfl) ?_
                refine lv_icmp_ne (tgt := 629) hx hb dL_members_622 (by decide) (fun c23 => ?_) (fun c23 => absurd c23 (nI_m1 (by omega)))
                refine lv_aload_n hx hb dL_members_629 rfl (lv_at hl 8 rfl) ?_
                refine lv_bipush (v := 11) hx hb dL_members_630 (by decide) ?_
                refine va_iald hx hb hK hP (139 + (0)) 0 ((xw_r).trans (lw_0)) rfl (vp_in_nI (show 11 < 15 by decide) (by omega)) dL_members_632 ?_
                refine z_top (v2 := .int (-1)) (congrArg Value.int ((nf_11 rfl).trans ((upd_ne (by omega)).trans ((upd_ne (by omega)).trans ((upd_ne (by omega)).trans ((upd_ne (by omega)).trans ((upd_ne (by omega)).trans ((upd_ne (by omega)).trans (hz10))))))))) ?_
                refine lv_if_ge (tgt := 640) hx hb dL_members_633 (by decide) (fun c24 => absurd c24 (by decide)) (fun c24 => ?_)
                have c24 := z_lt c24
                refine lv_iconst (v := 0) hx hb dL_members_636 (by decide) ?_
                refine lv_goto (tgt := 646) hx hb dL_members_637 (by decide) ?_
                refine lv_istore (lv' := [(10, .int 0), (9, .int (z (14 + 16 * a + 1))), (8, .int (nI sk)), (7, .int (nI b)), (6, .int (nI a)), (0, .ref x), (1, .int xv), (2, .int yv), (3, .ref na), (4, .ref ma), (5, .int (atP xv 12))]) hx hb dL_members_646 hl (by decide) rfl (fun ls hl => ?_)
                refine lv_aload_n hx hb dL_members_648 rfl (lv_at hl 8 rfl) ?_
                refine lv_iconst (v := 5) hx hb dL_members_649 (by decide) ?_
                refine va_iald hx hb hK hP (139 + (0)) 0 ((xw_r).trans (lw_0)) rfl (vp_in_nI (show 5 < 15 by decide) (by omega)) dL_members_650 ?_
                refine z_top (v2 := .int (nI kp)) (congrArg Value.int (nf_5 rfl)) ?_
                have J663_2 : ∀ (H : Heap) (locs : List Loc), va_P D vwCl (xw0 cI cC cM cB ad z t sg sz r x h ah (nI nx) (nI kp) zh (lwS cI na ma (upd (upd (upd (upd (upd (upd z 6 ((z 6) + (z (14 + 16 * a + 1)))) (14 + 16 * a) 0) (14 + 16 * a + 1) 0) (14 + 16 * a + 2) 0) 12 ((z 12) &&& ((1 <<< ((nI a) &&& 31)) ^^^ (-1)))) 13 ((z 13) &&& ((1 <<< ((nI a) &&& 31)) ^^^ (-1)))) (min (kp + 1) 6) wr)) H → va_D A (xw0 cI cC cM cB ad z t sg sz r x h ah (nI nx) (nI kp) zh (lwS cI na ma (upd (upd (upd (upd (upd (upd z 6 ((z 6) + (z (14 + 16 * a + 1)))) (14 + 16 * a) 0) (14 + 16 * a + 1) 0) (14 + 16 * a + 2) 0) 12 ((z 12) &&& ((1 <<< ((nI a) &&& 31)) ^^^ (-1)))) 13 ((z 13) &&& ((1 <<< ((nI a) &&& 31)) ^^^ (-1)))) (min (kp + 1) 6) wr)) → va_S A s.heap H locs → ∀ ls : Array Slot, lv_has ls 12 [(0, .ref x), (1, .int xv), (2, .int yv), (3, .ref na), (4, .ref ma), (5, .int (atP xv 12)), (6, .int (nI a)), (7, .int (nI b)), (8, .int (nI sk)), (9, .int (z (14 + 16 * a + 1))), (10, .int 0)] → W p l e ({ frames := 7, cells := 1, slots := 6, locals := 136 } : Room) s m ([.ref x, .int xv, .int yv, .ref na, .ref ma] : List Value).toArray below meth c H locs 0 0 (MQ below (zRQ D (zT cI cC cM cB cJ) (pG cI cC cM cB ad t sg sz r x h ah na ma wr (k + 1)) (some (.int 1)) A) ([.ref x, .int xv, .int yv, .ref na, .ref ma] : List Value).toArray s 1 6 A) (F0 m 663 ls []) := by
                  intro H locs hP hD hS ls hl
                  refine lv_aload_n hx hb dL_members_663 rfl (lv_at hl 0 rfl) ?_
                  refine lv_iload hx hb dL_members_664 (lv_at hl 6 rfl) ?_
                  have hM := c_X5_leave_a (l := l) (D := D) (cI := cI) (cC := cC) (cM := cM) (cB := cB) (cJ := cJ) (ad := ad) (z := z) (t := t) (h := h) (ah := ah) (zh := zh) (x := x) (sg := sg) (r := r) (sz := sz) (nx := nx) (kp := kp) (wr := lwS cI na ma (upd (upd (upd (upd (upd (upd z 6 ((z 6) + (z (14 + 16 * a + 1)))) (14 + 16 * a) 0) (14 + 16 * a + 1) 0) (14 + 16 * a + 2) 0) 12 ((z 12) &&& ((1 <<< ((nI a) &&& 31)) ^^^ (-1)))) 13 ((z 13) &&& ((1 <<< ((nI a) &&& 31)) ^^^ (-1)))) (min (kp + 1) 6) wr) hfl (n := n) (by omega) hz hnx hkp hB hz10 (nI a)
                  rw [cl_nI (show a < 2 ^ 31 by omega)] at hM
                  refine z_callX (rest := []) S hM qm_L_51 v_X5_leave ⟨Nat.le_of_ble_eq_true rfl, Nat.le_of_ble_eq_true rfl⟩ rfl rfl hJ hN hK hP hD hS hA 22 xw_x rfl rfl hl.1 rfl (Nat.le_of_ble_eq_true rfl) dL_members_666 ⟨Nat.le_of_ble_eq_true rfl, Nat.le_of_ble_eq_true rfl⟩ (fun _ H locs hP hD hS => ?_) (fun q_ => absurd (kg_leave (by omega) (by omega) c17 c18) q_)
                  refine W.eq (g2 := F0 m 669 ls [.int (z (14 + 16 * a + 1))]) rfl ?_
                  refine lv_iload hx hb dL_members_669 (lv_at hl 9 rfl) ?_
                  refine lv_icmp_ne (tgt := 683) hx hb dL_members_671 (by decide) (fun c25 => absurd c25 (not_not_intro rfl)) (fun c25 => ?_)
                  refine lv_iload hx hb dL_members_674 (lv_at hl 10 rfl) ?_
                  refine lv_if_lt (tgt := 683) hx hb dL_members_676 (by decide) (fun c26 => absurd c26 (by decide)) (fun c26 => ?_)
                  refine lv_iconst (v := 1) hx hb dL_members_679 (by decide) ?_
                  refine lv_goto (tgt := 684) hx hb dL_members_680 (by decide) ?_
                  obtain ⟨z2_, q1_, q2_, q3_⟩ := ps_leave_a hk hI (by omega) (show a < n by omega) hz10
                  exact z_zretR hx hb hr hlocks hP hD hK hS (pg_mk q1_ q2_ q3_ rfl) rfl rfl dL_members_684
                refine lv_bipush (v := 6) hx hb dL_members_651 (by decide) ?_
                refine lv_icmp_ge (tgt := 663) hx hb dL_members_653 (by decide) (fun c27 => ?_) (fun c27 => ?_)
                · have c27 := z_nlt c27
                  have hP := va_P_eq (w2 := xw0 cI cC cM cB ad z t sg sz r x h ah (nI nx) (nI kp) zh (lwS cI na ma (upd (upd (upd (upd (upd (upd z 6 ((z 6) + (z (14 + 16 * a + 1)))) (14 + 16 * a) 0) (14 + 16 * a + 1) 0) (14 + 16 * a + 2) 0) 12 ((z 12) &&& ((1 <<< ((nI a) &&& 31)) ^^^ (-1)))) 13 ((z 13) &&& ((1 <<< ((nI a) &&& 31)) ^^^ (-1)))) (min (kp + 1) 6) wr)) (congrArg (fun q_ => xw0 cI cC cM cB ad z t sg sz r x h ah (nI nx) (nI kp) zh (lwS cI na ma (upd (upd (upd (upd (upd (upd z 6 ((z 6) + (z (14 + 16 * a + 1)))) (14 + 16 * a) 0) (14 + 16 * a + 1) 0) (14 + 16 * a + 2) 0) 12 ((z 12) &&& ((1 <<< ((nI a) &&& 31)) ^^^ (-1)))) 13 ((z 13) &&& ((1 <<< ((nI a) &&& 31)) ^^^ (-1)))) q_ wr)) (show kp = min (kp + 1) 6 by have : ¬ kp < 6 := fun q => c27 ((nI_lti (a := kp) (b := 6) (by omega) (by omega)).mpr q); omega)) hP
                  have hD := va_D_eq (w2 := xw0 cI cC cM cB ad z t sg sz r x h ah (nI nx) (nI kp) zh (lwS cI na ma (upd (upd (upd (upd (upd (upd z 6 ((z 6) + (z (14 + 16 * a + 1)))) (14 + 16 * a) 0) (14 + 16 * a + 1) 0) (14 + 16 * a + 2) 0) 12 ((z 12) &&& ((1 <<< ((nI a) &&& 31)) ^^^ (-1)))) 13 ((z 13) &&& ((1 <<< ((nI a) &&& 31)) ^^^ (-1)))) (min (kp + 1) 6) wr)) (congrArg (fun q_ => xw0 cI cC cM cB ad z t sg sz r x h ah (nI nx) (nI kp) zh (lwS cI na ma (upd (upd (upd (upd (upd (upd z 6 ((z 6) + (z (14 + 16 * a + 1)))) (14 + 16 * a) 0) (14 + 16 * a + 1) 0) (14 + 16 * a + 2) 0) 12 ((z 12) &&& ((1 <<< ((nI a) &&& 31)) ^^^ (-1)))) 13 ((z 13) &&& ((1 <<< ((nI a) &&& 31)) ^^^ (-1)))) q_ wr)) (show kp = min (kp + 1) 6 by have : ¬ kp < 6 := fun q => c27 ((nI_lti (a := kp) (b := 6) (by omega) (by omega)).mpr q); omega)) hD
                  exact J663_2 _ _ hP hD hS ls (lv_sub hl [5, 6, 7, 8, 9, 10, 4, 3, 2, 1, 0] rfl)
                · have c27 := z_lt c27
                  refine lv_aload_n hx hb dL_members_656 rfl (lv_at hl 8 rfl) ?_
                  refine lv_iconst (v := 5) hx hb dL_members_657 (by decide) ?_
                  refine lv_dup2_11 hx hb dL_members_658 rfl rfl ?_
                  refine va_iald hx hb hK hP (139 + (0)) 0 ((xw_r).trans (lw_0)) rfl (vp_in_nI (show 5 < 15 by decide) (by omega)) dL_members_659 ?_
                  refine z_top (v2 := .int (nI kp)) (congrArg Value.int (nf_5 rfl)) ?_
                  refine lv_iconst (v := 1) hx hb dL_members_660 (by decide) ?_
                  refine lv_iadd hx hb dL_members_661  ?_
                  refine z_top (v2 := .int (nI (kp + 1))) (congrArg Value.int (nI_add kp 1)) ?_
                  refine z_iast (ws2 := xw0 cI cC cM cB ad z t sg sz r x h ah (nI nx) (nI kp) zh (lwS cI na ma (upd (upd (upd (upd (upd (upd z 6 ((z 6) + (z (14 + 16 * a + 1)))) (14 + 16 * a) 0) (14 + 16 * a + 1) 0) (14 + 16 * a + 2) 0) 12 ((z 12) &&& ((1 <<< ((nI a) &&& 31)) ^^^ (-1)))) 13 ((z 13) &&& ((1 <<< ((nI a) &&& 31)) ^^^ (-1)))) (kp + 1) wr)) hx hb hK hP hD hS (139 + (0)) 0 ((xw_r).trans (lw_0)) rfl (vp_in_nI (show 5 < 15 by decide) (by omega)) dL_members_662 ((xw_rs).trans (congrArg (fun w_ => xw0 cI cC cM cB ad z t sg sz r x h ah (nI nx) (nI kp) zh w_) (z_ixw (k := 5) rfl (by omega) (fun q_ => (lwS cI na ma (upd (upd (upd (upd (upd (upd z 6 ((z 6) + (z (14 + 16 * a + 1)))) (14 + 16 * a) 0) (14 + 16 * a + 1) 0) (14 + 16 * a + 2) 0) 12 ((z 12) &&& ((1 <<< ((nI a) &&& 31)) ^^^ (-1)))) 13 ((z 13) &&& ((1 <<< ((nI a) &&& 31)) ^^^ (-1)))) kp wr).set 0 (na, .inl (cI, 15, .inl (upd (nfn (upd (upd (upd (upd (upd (upd z 6 ((z 6) + (z (14 + 16 * a + 1)))) (14 + 16 * a) 0) (14 + 16 * a + 1) 0) (14 + 16 * a + 2) 0) 12 ((z 12) &&& ((1 <<< ((nI a) &&& 31)) ^^^ (-1)))) 13 ((z 13) &&& ((1 <<< ((nI a) &&& 31)) ^^^ (-1)))) kp) q_ (nI (kp + 1)))))) lw_wk))) (fun H locs hP hD hS => ?_)
                  have hP := va_P_eq (w2 := xw0 cI cC cM cB ad z t sg sz r x h ah (nI nx) (nI kp) zh (lwS cI na ma (upd (upd (upd (upd (upd (upd z 6 ((z 6) + (z (14 + 16 * a + 1)))) (14 + 16 * a) 0) (14 + 16 * a + 1) 0) (14 + 16 * a + 2) 0) 12 ((z 12) &&& ((1 <<< ((nI a) &&& 31)) ^^^ (-1)))) 13 ((z 13) &&& ((1 <<< ((nI a) &&& 31)) ^^^ (-1)))) (min (kp + 1) 6) wr)) (congrArg (fun q_ => xw0 cI cC cM cB ad z t sg sz r x h ah (nI nx) (nI kp) zh (lwS cI na ma (upd (upd (upd (upd (upd (upd z 6 ((z 6) + (z (14 + 16 * a + 1)))) (14 + 16 * a) 0) (14 + 16 * a + 1) 0) (14 + 16 * a + 2) 0) 12 ((z 12) &&& ((1 <<< ((nI a) &&& 31)) ^^^ (-1)))) 13 ((z 13) &&& ((1 <<< ((nI a) &&& 31)) ^^^ (-1)))) q_ wr)) (show kp + 1 = min (kp + 1) 6 by have := (nI_lti (a := kp) (b := 6) (by omega) (by omega)).mp c27; omega)) hP
                  have hD := va_D_eq (w2 := xw0 cI cC cM cB ad z t sg sz r x h ah (nI nx) (nI kp) zh (lwS cI na ma (upd (upd (upd (upd (upd (upd z 6 ((z 6) + (z (14 + 16 * a + 1)))) (14 + 16 * a) 0) (14 + 16 * a + 1) 0) (14 + 16 * a + 2) 0) 12 ((z 12) &&& ((1 <<< ((nI a) &&& 31)) ^^^ (-1)))) 13 ((z 13) &&& ((1 <<< ((nI a) &&& 31)) ^^^ (-1)))) (min (kp + 1) 6) wr)) (congrArg (fun q_ => xw0 cI cC cM cB ad z t sg sz r x h ah (nI nx) (nI kp) zh (lwS cI na ma (upd (upd (upd (upd (upd (upd z 6 ((z 6) + (z (14 + 16 * a + 1)))) (14 + 16 * a) 0) (14 + 16 * a + 1) 0) (14 + 16 * a + 2) 0) 12 ((z 12) &&& ((1 <<< ((nI a) &&& 31)) ^^^ (-1)))) 13 ((z 13) &&& ((1 <<< ((nI a) &&& 31)) ^^^ (-1)))) q_ wr)) (show kp + 1 = min (kp + 1) 6 by have := (nI_lti (a := kp) (b := 6) (by omega) (by omega)).mp c27; omega)) hD
                  exact J663_2 _ _ hP hD hS ls (lv_sub hl [5, 6, 7, 8, 9, 10, 4, 3, 2, 1, 0] rfl)
              · skip
                refine lv_aload hx hb dL_members_543 (lv_at hl 7 rfl) ?_
                refine lv_bipush (v := 16) hx hb dL_members_545 (by decide) ?_
                refine lv_iload hx hb dL_members_547 (lv_at hl 2 rfl) ?_
                refine lv_imul hx hb dL_members_549 ?_
                refine z_top (v2 := .int (nI (16 * a))) (congrArg Value.int (pk_mul 16 a)) ?_
                refine lv_iconst (v := 1) hx hb dL_members_550 (by decide) ?_
                refine lv_iadd hx hb dL_members_551  ?_
                refine z_top (v2 := .int (nI (16 * a + 1))) (congrArg Value.int (nI_add (16 * a) 1)) ?_
                refine va_iald hx hb hK hP (139 + (1)) 0 ((xw_r).trans (lw_1)) rfl (vp_in_nI (show 16 * a + 1 < 64 by omega) (by omega)) dL_members_552 ?_
                refine z_top (v2 := .int (z (14 + 16 * a + 1))) (congrArg Value.int ((lm_at rfl (show 16 * a + 1 < 64 by omega) (show 14 + (16 * a + 1) = 14 + 16 * a + 1 by omega)).trans (rfl))) ?_
                refine lv_istore (lv' := [(9, .int (z (14 + 16 * a + 1))), (8, .int (nI sk)), (7, .int (nI b)), (6, .int (nI a)), (0, .ref x), (1, .int xv), (2, .int yv), (3, .ref na), (4, .ref ma), (5, .int (atP xv 12))]) hx hb dL_members_553 hl (by decide) rfl (fun ls hl => ?_)
                refine lv_aload_n hx hb dL_members_555 rfl (lv_at hl 7 rfl) ?_
                refine lv_iconst (v := 1) hx hb dL_members_556 (by decide) ?_
                refine lv_dup2_11 hx hb dL_members_557 rfl rfl ?_
                refine va_iald hx hb hK hP (139 + (0)) 0 ((xw_r).trans (lw_0)) rfl (vp_in_nI (show 1 < 15 by decide) (by omega)) dL_members_558 ?_
                refine z_top (v2 := .int (z 6)) (congrArg Value.int ((nf_1 rfl).trans (rfl))) ?_
                refine lv_iload hx hb dL_members_559 (lv_at hl 0 rfl) ?_
                refine lv_iadd hx hb dL_members_561  ?_
                refine z_iast (ws2 := xw0 cI cC cM cB ad z t sg sz r x h ah (nI nx) (nI kp) zh (lwS cI na ma (upd z 6 ((z 6) + (z (14 + 16 * a + 1)))) kp wr)) hx hb hK hP hD hS (139 + (0)) 0 ((xw_r).trans (lw_0)) rfl (vp_in_nI (show 1 < 15 by decide) (by omega)) dL_members_562 ((xw_rs).trans (congrArg (fun w_ => xw0 cI cC cM cB ad z t sg sz r x h ah (nI nx) (nI kp) zh w_) (z_ixw (k := 1) rfl (by omega) (fun q_ => (lwS cI na ma z kp wr).set 0 (na, .inl (cI, 15, .inl (upd (nfn z kp) q_ ((z 6) + (z (14 + 16 * a + 1))))))) (lw_wx (by decide) (by decide) rfl)))) (fun H locs hP hD hS => ?_)
                refine lv_iconst (v := 0) hx hb dL_members_563 (by decide) ?_
                refine lv_istore (lv' := [(10, .int 0), (9, .int (z (14 + 16 * a + 1))), (8, .int (nI sk)), (7, .int (nI b)), (6, .int (nI a)), (0, .ref x), (1, .int xv), (2, .int yv), (3, .ref na), (4, .ref ma), (5, .int (atP xv 12))]) hx hb dL_members_564 hl (by decide) rfl (fun ls hl => ?_)
                refine lv_iload hx hb dL_members_566 (lv_at hl 0 rfl) ?_
                refine lv_iconst (v := 3) hx hb dL_members_568 (by decide) ?_
                refine lv_icmp_ge (tgt := 590) hx hb dL_members_569 (by decide) (fun c28 => absurd c28 (by decide)) (fun c28 => ?_)
                have c28 := z_lt c28
                refine lv_aload hx hb dL_members_572 (lv_at hl 9 rfl) ?_
                refine lv_bipush (v := 16) hx hb dL_members_574 (by decide) ?_
                refine lv_iload hx hb dL_members_576 (lv_at hl 4 rfl) ?_
                refine lv_imul hx hb dL_members_578 ?_
                refine z_top (v2 := .int (nI (16 * a))) (congrArg Value.int (pk_mul 16 a)) ?_
                refine lv_iload hx hb dL_members_579 (lv_at hl 0 rfl) ?_
                refine lv_iadd hx hb dL_members_581  ?_
                refine z_top (v2 := .int (nI (16 * a + 0))) (congrArg Value.int (nI_add (16 * a) 0)) ?_
                refine lv_iconst (v := 0) hx hb dL_members_582 (by decide) ?_
                refine z_iast (ws2 := xw0 cI cC cM cB ad z t sg sz r x h ah (nI nx) (nI kp) zh (lwS cI na ma (upd (upd z 6 ((z 6) + (z (14 + 16 * a + 1)))) (14 + 16 * a) 0) kp wr)) hx hb hK hP hD hS (139 + (1)) 0 ((xw_r).trans (lw_1)) rfl (vp_in_nI (show 16 * a + 0 < 64 by omega) (by omega)) dL_members_583 ((xw_rs).trans (congrArg (fun w_ => xw0 cI cC cM cB ad z t sg sz r x h ah (nI nx) (nI kp) zh w_) (z_ixw rfl (show 16 * a + 0 < 2 ^ 31 by omega) (fun q_ => (lwS cI na ma (upd z 6 ((z 6) + (z (14 + 16 * a + 1)))) kp wr).set 1 (ma, .inl (cI, 64, .inl (upd (mfn (upd z 6 ((z 6) + (z (14 + 16 * a + 1))))) q_ 0)))) (lw_wm (show 16 * a + 0 < 64 by omega) (show 14 + (16 * a + 0) = 14 + 16 * a by omega))))) (fun H locs hP hD hS => ?_)
                refine lv_iinc (v := 1) (lv' := [(10, .int 1), (9, .int (z (14 + 16 * a + 1))), (8, .int (nI sk)), (7, .int (nI b)), (6, .int (nI a)), (0, .ref x), (1, .int xv), (2, .int yv), (3, .ref na), (4, .ref ma), (5, .int (atP xv 12))]) hx hb dL_members_584 hl (k := 0) rfl (by decide) (by decide) rfl (fun ls hl => ?_)
                refine lv_goto (tgt := 566) hx hb dL_members_587 (by decide) ?_
                refine lv_iload hx hb dL_members_566 (lv_at hl 0 rfl) ?_
                refine lv_iconst (v := 3) hx hb dL_members_568 (by decide) ?_
                refine lv_icmp_ge (tgt := 590) hx hb dL_members_569 (by decide) (fun c29 => absurd c29 (by decide)) (fun c29 => ?_)
                have c29 := z_lt c29
                refine lv_aload hx hb dL_members_572 (lv_at hl 9 rfl) ?_
                refine lv_bipush (v := 16) hx hb dL_members_574 (by decide) ?_
                refine lv_iload hx hb dL_members_576 (lv_at hl 4 rfl) ?_
                refine lv_imul hx hb dL_members_578 ?_
                refine z_top (v2 := .int (nI (16 * a))) (congrArg Value.int (pk_mul 16 a)) ?_
                refine lv_iload hx hb dL_members_579 (lv_at hl 0 rfl) ?_
                refine lv_iadd hx hb dL_members_581  ?_
                refine z_top (v2 := .int (nI (16 * a + 1))) (congrArg Value.int (nI_add (16 * a) 1)) ?_
                refine lv_iconst (v := 0) hx hb dL_members_582 (by decide) ?_
                refine z_iast (ws2 := xw0 cI cC cM cB ad z t sg sz r x h ah (nI nx) (nI kp) zh (lwS cI na ma (upd (upd (upd z 6 ((z 6) + (z (14 + 16 * a + 1)))) (14 + 16 * a) 0) (14 + 16 * a + 1) 0) kp wr)) hx hb hK hP hD hS (139 + (1)) 0 ((xw_r).trans (lw_1)) rfl (vp_in_nI (show 16 * a + 1 < 64 by omega) (by omega)) dL_members_583 ((xw_rs).trans (congrArg (fun w_ => xw0 cI cC cM cB ad z t sg sz r x h ah (nI nx) (nI kp) zh w_) (z_ixw rfl (show 16 * a + 1 < 2 ^ 31 by omega) (fun q_ => (lwS cI na ma (upd (upd z 6 ((z 6) + (z (14 + 16 * a + 1)))) (14 + 16 * a) 0) kp wr).set 1 (ma, .inl (cI, 64, .inl (upd (mfn (upd (upd z 6 ((z 6) + (z (14 + 16 * a + 1)))) (14 + 16 * a) 0)) q_ 0)))) (lw_wm (show 16 * a + 1 < 64 by omega) (show 14 + (16 * a + 1) = 14 + 16 * a + 1 by omega))))) (fun H locs hP hD hS => ?_)
                refine lv_iinc (v := 2) (lv' := [(10, .int 2), (9, .int (z (14 + 16 * a + 1))), (8, .int (nI sk)), (7, .int (nI b)), (6, .int (nI a)), (0, .ref x), (1, .int xv), (2, .int yv), (3, .ref na), (4, .ref ma), (5, .int (atP xv 12))]) hx hb dL_members_584 hl (k := 0) rfl (by decide) (by decide) rfl (fun ls hl => ?_)
                refine lv_goto (tgt := 566) hx hb dL_members_587 (by decide) ?_
                refine lv_iload hx hb dL_members_566 (lv_at hl 0 rfl) ?_
                refine lv_iconst (v := 3) hx hb dL_members_568 (by decide) ?_
                refine lv_icmp_ge (tgt := 590) hx hb dL_members_569 (by decide) (fun c30 => absurd c30 (by decide)) (fun c30 => ?_)
                have c30 := z_lt c30
                refine lv_aload hx hb dL_members_572 (lv_at hl 9 rfl) ?_
                refine lv_bipush (v := 16) hx hb dL_members_574 (by decide) ?_
                refine lv_iload hx hb dL_members_576 (lv_at hl 4 rfl) ?_
                refine lv_imul hx hb dL_members_578 ?_
                refine z_top (v2 := .int (nI (16 * a))) (congrArg Value.int (pk_mul 16 a)) ?_
                refine lv_iload hx hb dL_members_579 (lv_at hl 0 rfl) ?_
                refine lv_iadd hx hb dL_members_581  ?_
                refine z_top (v2 := .int (nI (16 * a + 2))) (congrArg Value.int (nI_add (16 * a) 2)) ?_
                refine lv_iconst (v := 0) hx hb dL_members_582 (by decide) ?_
                refine z_iast (ws2 := xw0 cI cC cM cB ad z t sg sz r x h ah (nI nx) (nI kp) zh (lwS cI na ma (upd (upd (upd (upd z 6 ((z 6) + (z (14 + 16 * a + 1)))) (14 + 16 * a) 0) (14 + 16 * a + 1) 0) (14 + 16 * a + 2) 0) kp wr)) hx hb hK hP hD hS (139 + (1)) 0 ((xw_r).trans (lw_1)) rfl (vp_in_nI (show 16 * a + 2 < 64 by omega) (by omega)) dL_members_583 ((xw_rs).trans (congrArg (fun w_ => xw0 cI cC cM cB ad z t sg sz r x h ah (nI nx) (nI kp) zh w_) (z_ixw rfl (show 16 * a + 2 < 2 ^ 31 by omega) (fun q_ => (lwS cI na ma (upd (upd (upd z 6 ((z 6) + (z (14 + 16 * a + 1)))) (14 + 16 * a) 0) (14 + 16 * a + 1) 0) kp wr).set 1 (ma, .inl (cI, 64, .inl (upd (mfn (upd (upd (upd z 6 ((z 6) + (z (14 + 16 * a + 1)))) (14 + 16 * a) 0) (14 + 16 * a + 1) 0)) q_ 0)))) (lw_wm (show 16 * a + 2 < 64 by omega) (show 14 + (16 * a + 2) = 14 + 16 * a + 2 by omega))))) (fun H locs hP hD hS => ?_)
                refine lv_iinc (v := 3) (lv' := [(10, .int 3), (9, .int (z (14 + 16 * a + 1))), (8, .int (nI sk)), (7, .int (nI b)), (6, .int (nI a)), (0, .ref x), (1, .int xv), (2, .int yv), (3, .ref na), (4, .ref ma), (5, .int (atP xv 12))]) hx hb dL_members_584 hl (k := 0) rfl (by decide) (by decide) rfl (fun ls hl => ?_)
                refine lv_goto (tgt := 566) hx hb dL_members_587 (by decide) ?_
                refine lv_iload hx hb dL_members_566 (lv_at hl 0 rfl) ?_
                refine lv_iconst (v := 3) hx hb dL_members_568 (by decide) ?_
                refine lv_icmp_ge (tgt := 590) hx hb dL_members_569 (by decide) (fun c31 => ?_) (fun c31 => absurd (by decide) c31)
                have c31 := z_nlt c31
                refine lv_aload_n hx hb dL_members_590 rfl (lv_at hl 8 rfl) ?_
                refine lv_bipush (v := 13) hx hb dL_members_591 (by decide) ?_
                refine lv_dup2_11 hx hb dL_members_593 rfl rfl ?_
                refine va_iald hx hb hK hP (139 + (0)) 0 ((xw_r).trans (lw_0)) rfl (vp_in_nI (show 13 < 15 by decide) (by omega)) dL_members_594 ?_
                refine z_top (v2 := .int (z 12)) (congrArg Value.int ((nf_13 rfl).trans ((upd_ne (by omega)).trans ((upd_ne (by omega)).trans ((upd_ne (by omega)).trans ((upd_ne (by omega)).trans (rfl))))))) ?_
                refine lv_iconst (v := 1) hx hb dL_members_595 (by decide) ?_
                refine lv_iload hx hb dL_members_596 (lv_at hl 4 rfl) ?_
                refine lv_ishl hx hb dL_members_598  ?_
                refine lv_iconst (v := (-1)) hx hb dL_members_599 (by decide) ?_
                refine lv_ixor hx hb dL_members_600  ?_
                refine lv_iand hx hb dL_members_601  ?_
                refine z_iast (ws2 := xw0 cI cC cM cB ad z t sg sz r x h ah (nI nx) (nI kp) zh (lwS cI na ma (upd (upd (upd (upd (upd z 6 ((z 6) + (z (14 + 16 * a + 1)))) (14 + 16 * a) 0) (14 + 16 * a + 1) 0) (14 + 16 * a + 2) 0) 12 ((z 12) &&& ((1 <<< ((nI a) &&& 31)) ^^^ (-1)))) kp wr)) hx hb hK hP hD hS (139 + (0)) 0 ((xw_r).trans (lw_0)) rfl (vp_in_nI (show 13 < 15 by decide) (by omega)) dL_members_602 ((xw_rs).trans (congrArg (fun w_ => xw0 cI cC cM cB ad z t sg sz r x h ah (nI nx) (nI kp) zh w_) (z_ixw (k := 13) rfl (by omega) (fun q_ => (lwS cI na ma (upd (upd (upd (upd z 6 ((z 6) + (z (14 + 16 * a + 1)))) (14 + 16 * a) 0) (14 + 16 * a + 1) 0) (14 + 16 * a + 2) 0) kp wr).set 0 (na, .inl (cI, 15, .inl (upd (nfn (upd (upd (upd (upd z 6 ((z 6) + (z (14 + 16 * a + 1)))) (14 + 16 * a) 0) (14 + 16 * a + 1) 0) (14 + 16 * a + 2) 0) kp) q_ ((z 12) &&& ((1 <<< ((nI a) &&& 31)) ^^^ (-1))))))) (lw_wx (by decide) (by decide) rfl)))) (fun H locs hP hD hS => ?_)
                refine lv_aload_n hx hb dL_members_603 rfl (lv_at hl 8 rfl) ?_
                refine lv_bipush (v := 14) hx hb dL_members_604 (by decide) ?_
                refine lv_dup2_11 hx hb dL_members_606 rfl rfl ?_
                refine va_iald hx hb hK hP (139 + (0)) 0 ((xw_r).trans (lw_0)) rfl (vp_in_nI (show 14 < 15 by decide) (by omega)) dL_members_607 ?_
                refine z_top (v2 := .int (z 13)) (congrArg Value.int ((nf_14 rfl).trans ((upd_ne (by omega)).trans ((upd_ne (by omega)).trans ((upd_ne (by omega)).trans ((upd_ne (by omega)).trans ((upd_ne (by omega)).trans (rfl)))))))) ?_
                refine lv_iconst (v := 1) hx hb dL_members_608 (by decide) ?_
                refine lv_iload hx hb dL_members_609 (lv_at hl 4 rfl) ?_
                refine lv_ishl hx hb dL_members_611  ?_
                refine lv_iconst (v := (-1)) hx hb dL_members_612 (by decide) ?_
                refine lv_ixor hx hb dL_members_613  ?_
                refine lv_iand hx hb dL_members_614  ?_
                refine z_iast (ws2 := xw0 cI cC cM cB ad z t sg sz r x h ah (nI nx) (nI kp) zh (lwS cI na ma (upd (upd (upd (upd (upd (upd z 6 ((z 6) + (z (14 + 16 * a + 1)))) (14 + 16 * a) 0) (14 + 16 * a + 1) 0) (14 + 16 * a + 2) 0) 12 ((z 12) &&& ((1 <<< ((nI a) &&& 31)) ^^^ (-1)))) 13 ((z 13) &&& ((1 <<< ((nI a) &&& 31)) ^^^ (-1)))) kp wr)) hx hb hK hP hD hS (139 + (0)) 0 ((xw_r).trans (lw_0)) rfl (vp_in_nI (show 14 < 15 by decide) (by omega)) dL_members_615 ((xw_rs).trans (congrArg (fun w_ => xw0 cI cC cM cB ad z t sg sz r x h ah (nI nx) (nI kp) zh w_) (z_ixw (k := 14) rfl (by omega) (fun q_ => (lwS cI na ma (upd (upd (upd (upd (upd z 6 ((z 6) + (z (14 + 16 * a + 1)))) (14 + 16 * a) 0) (14 + 16 * a + 1) 0) (14 + 16 * a + 2) 0) 12 ((z 12) &&& ((1 <<< ((nI a) &&& 31)) ^^^ (-1)))) kp wr).set 0 (na, .inl (cI, 15, .inl (upd (nfn (upd (upd (upd (upd (upd z 6 ((z 6) + (z (14 + 16 * a + 1)))) (14 + 16 * a) 0) (14 + 16 * a + 1) 0) (14 + 16 * a + 2) 0) 12 ((z 12) &&& ((1 <<< ((nI a) &&& 31)) ^^^ (-1)))) kp) q_ ((z 13) &&& ((1 <<< ((nI a) &&& 31)) ^^^ (-1))))))) (lw_wx (by decide) (by decide) rfl)))) (fun H locs hP hD hS => ?_)
                refine lv_aload_n hx hb dL_members_616 rfl (lv_at hl 8 rfl) ?_
                refine lv_bipush (v := 11) hx hb dL_members_617 (by decide) ?_
                refine va_iald hx hb hK hP (139 + (0)) 0 ((xw_r).trans (lw_0)) rfl (vp_in_nI (show 11 < 15 by decide) (by omega)) dL_members_619 ?_
                refine z_top (v2 := .int (nI d)) (congrArg Value.int ((nf_11 rfl).trans ((upd_ne (by omega)).trans ((upd_ne (by omega)).trans ((upd_ne (by omega)).trans ((upd_ne (by omega)).trans ((upd_ne (by omega)).trans ((upd_ne (by omega)).trans (hz10))))))))) ?_
                refine lv_iload hx hb dL_members_620 (lv_at hl 4 rfl) ?_
                refine lv_icmp_ne (tgt := 629) hx hb dL_members_622 (by decide) (fun c32 => ?_) (fun c32 => ?_)
                · skip
                  refine lv_aload_n hx hb dL_members_629 rfl (lv_at hl 8 rfl) ?_
                  refine lv_bipush (v := 11) hx hb dL_members_630 (by decide) ?_
                  refine va_iald hx hb hK hP (139 + (0)) 0 ((xw_r).trans (lw_0)) rfl (vp_in_nI (show 11 < 15 by decide) (by omega)) dL_members_632 ?_
                  refine z_top (v2 := .int (nI d)) (congrArg Value.int ((nf_11 rfl).trans ((upd_ne (by omega)).trans ((upd_ne (by omega)).trans ((upd_ne (by omega)).trans ((upd_ne (by omega)).trans ((upd_ne (by omega)).trans ((upd_ne (by omega)).trans (hz10))))))))) ?_
                  refine lv_if_ge (tgt := 640) hx hb dL_members_633 (by decide) (fun c33 => ?_) (fun c33 => absurd (nI_pos' (n := d) (by omega)) c33)
                  have c33 := z_nlt c33
                  refine lv_aload_n hx hb dL_members_640 rfl (lv_at hl 8 rfl) ?_
                  refine lv_aload hx hb dL_members_641 (lv_at hl 9 rfl) ?_
                  refine z_callS1 (rest := []) S (c_L_look (n := n) (by omega) ((upd_ne (by omega)).trans ((upd_ne (by omega)).trans ((upd_ne (by omega)).trans ((upd_ne (by omega)).trans ((upd_ne (by omega)).trans ((upd_ne (by omega)).trans (hz))))))) (d := d) (by omega) ((upd_ne (by omega)).trans ((upd_ne (by omega)).trans ((upd_ne (by omega)).trans ((upd_ne (by omega)).trans ((upd_ne (by omega)).trans ((upd_ne (by omega)).trans (hz10)))))))) qm_L_48 t_L_look ⟨Nat.le_of_ble_eq_true rfl, Nat.le_of_ble_eq_true rfl⟩ rfl rfl hN hK hP hD hS hA rfl hl.1 rfl (Nat.le_of_ble_eq_true rfl) dL_members_643 ⟨Nat.le_of_ble_eq_true rfl, Nat.le_of_ble_eq_true rfl⟩ (fun H locs hP hD hS => ?_)
                  refine lv_istore (lv' := [(10, .int (lk4R (upd (upd (upd (upd (upd (upd z 6 ((z 6) + (z (14 + 16 * a + 1)))) (14 + 16 * a) 0) (14 + 16 * a + 1) 0) (14 + 16 * a + 2) 0) 12 ((z 12) &&& ((1 <<< ((nI a) &&& 31)) ^^^ (-1)))) 13 ((z 13) &&& ((1 <<< ((nI a) &&& 31)) ^^^ (-1)))) n d)), (9, .int (z (14 + 16 * a + 1))), (8, .int (nI sk)), (7, .int (nI b)), (6, .int (nI a)), (0, .ref x), (1, .int xv), (2, .int yv), (3, .ref na), (4, .ref ma), (5, .int (atP xv 12))]) hx hb dL_members_646 hl (by decide) rfl (fun ls hl => ?_)
                  refine lv_aload_n hx hb dL_members_648 rfl (lv_at hl 8 rfl) ?_
                  refine lv_iconst (v := 5) hx hb dL_members_649 (by decide) ?_
                  refine va_iald hx hb hK hP (139 + (0)) 0 ((xw_r).trans (lw_0)) rfl (vp_in_nI (show 5 < 15 by decide) (by omega)) dL_members_650 ?_
                  refine z_top (v2 := .int (nI kp)) (congrArg Value.int (nf_5 rfl)) ?_
                  have J663_2 : ∀ (H : Heap) (locs : List Loc), va_P D vwCl (xw0 cI cC cM cB ad z t sg sz r x h ah (nI nx) (nI kp) zh (lwS cI na ma (lk4Z (upd (upd (upd (upd (upd (upd z 6 ((z 6) + (z (14 + 16 * a + 1)))) (14 + 16 * a) 0) (14 + 16 * a + 1) 0) (14 + 16 * a + 2) 0) 12 ((z 12) &&& ((1 <<< ((nI a) &&& 31)) ^^^ (-1)))) 13 ((z 13) &&& ((1 <<< ((nI a) &&& 31)) ^^^ (-1)))) n d) (min (kp + 1) 6) wr)) H → va_D A (xw0 cI cC cM cB ad z t sg sz r x h ah (nI nx) (nI kp) zh (lwS cI na ma (lk4Z (upd (upd (upd (upd (upd (upd z 6 ((z 6) + (z (14 + 16 * a + 1)))) (14 + 16 * a) 0) (14 + 16 * a + 1) 0) (14 + 16 * a + 2) 0) 12 ((z 12) &&& ((1 <<< ((nI a) &&& 31)) ^^^ (-1)))) 13 ((z 13) &&& ((1 <<< ((nI a) &&& 31)) ^^^ (-1)))) n d) (min (kp + 1) 6) wr)) → va_S A s.heap H locs → ∀ ls : Array Slot, lv_has ls 12 [(0, .ref x), (1, .int xv), (2, .int yv), (3, .ref na), (4, .ref ma), (5, .int (atP xv 12)), (6, .int (nI a)), (7, .int (nI b)), (8, .int (nI sk)), (9, .int (z (14 + 16 * a + 1))), (10, .int (lk4R (upd (upd (upd (upd (upd (upd z 6 ((z 6) + (z (14 + 16 * a + 1)))) (14 + 16 * a) 0) (14 + 16 * a + 1) 0) (14 + 16 * a + 2) 0) 12 ((z 12) &&& ((1 <<< ((nI a) &&& 31)) ^^^ (-1)))) 13 ((z 13) &&& ((1 <<< ((nI a) &&& 31)) ^^^ (-1)))) n d))] → W p l e ({ frames := 7, cells := 1, slots := 6, locals := 136 } : Room) s m ([.ref x, .int xv, .int yv, .ref na, .ref ma] : List Value).toArray below meth c H locs 0 0 (MQ below (zRQ D (zT cI cC cM cB cJ) (pG cI cC cM cB ad t sg sz r x h ah na ma wr (k + 1)) (some (.int 1)) A) ([.ref x, .int xv, .int yv, .ref na, .ref ma] : List Value).toArray s 1 6 A) (F0 m 663 ls []) := by
                    intro H locs hP hD hS ls hl
                    refine lv_aload_n hx hb dL_members_663 rfl (lv_at hl 0 rfl) ?_
                    refine lv_iload hx hb dL_members_664 (lv_at hl 6 rfl) ?_
                    have hM := c_X5_leave_b (l := l) (D := D) (cI := cI) (cC := cC) (cM := cM) (cB := cB) (cJ := cJ) (ad := ad) (z := z) (t := t) (h := h) (ah := ah) (zh := zh) (x := x) (sg := sg) (r := r) (sz := sz) (nx := nx) (kp := kp) (wr := lwS cI na ma (lk4Z (upd (upd (upd (upd (upd (upd z 6 ((z 6) + (z (14 + 16 * a + 1)))) (14 + 16 * a) 0) (14 + 16 * a + 1) 0) (14 + 16 * a + 2) 0) 12 ((z 12) &&& ((1 <<< ((nI a) &&& 31)) ^^^ (-1)))) 13 ((z 13) &&& ((1 <<< ((nI a) &&& 31)) ^^^ (-1)))) n d) (min (kp + 1) 6) wr) hfl (n := n) (by omega) hz hnx hkp hB hd hz10 (nI a)
                    rw [cl_nI (show a < 2 ^ 31 by omega)] at hM
                    refine z_callX (rest := []) S hM qm_L_51 v_X5_leave ⟨Nat.le_of_ble_eq_true rfl, Nat.le_of_ble_eq_true rfl⟩ rfl rfl hJ hN hK hP hD hS hA 22 xw_x rfl rfl hl.1 rfl (Nat.le_of_ble_eq_true rfl) dL_members_666 ⟨Nat.le_of_ble_eq_true rfl, Nat.le_of_ble_eq_true rfl⟩ (fun _ H locs hP hD hS => ?_) (fun q_ => absurd (kg_leave (by omega) (by omega) c17 c18) q_)
                    refine W.eq (g2 := F0 m 669 ls [.int (z (14 + 16 * a + 1))]) rfl ?_
                    refine lv_iload hx hb dL_members_669 (lv_at hl 9 rfl) ?_
                    refine lv_icmp_ne (tgt := 683) hx hb dL_members_671 (by decide) (fun c34 => absurd c34 (not_not_intro rfl)) (fun c34 => ?_)
                    refine lv_iload hx hb dL_members_674 (lv_at hl 10 rfl) ?_
                    refine lv_if_lt (tgt := 683) hx hb dL_members_676 (by decide) (fun c35 => absurd c35 (lk4_nn)) (fun c35 => ?_)
                    refine lv_iconst (v := 1) hx hb dL_members_679 (by decide) ?_
                    refine lv_goto (tgt := 684) hx hb dL_members_680 (by decide) ?_
                    obtain ⟨z2_, q1_, q2_, q3_, q4_⟩ := ps_leave_b hk hI (by omega) (show a < n by omega) hd hz10
                    exact z_zretR hx hb hr hlocks hP hD hK hS (pg_mk q1_ q2_ (q4_ c32) rfl) rfl rfl dL_members_684
                  refine lv_bipush (v := 6) hx hb dL_members_651 (by decide) ?_
                  refine lv_icmp_ge (tgt := 663) hx hb dL_members_653 (by decide) (fun c36 => ?_) (fun c36 => ?_)
                  · have c36 := z_nlt c36
                    have hP := va_P_eq (w2 := xw0 cI cC cM cB ad z t sg sz r x h ah (nI nx) (nI kp) zh (lwS cI na ma (lk4Z (upd (upd (upd (upd (upd (upd z 6 ((z 6) + (z (14 + 16 * a + 1)))) (14 + 16 * a) 0) (14 + 16 * a + 1) 0) (14 + 16 * a + 2) 0) 12 ((z 12) &&& ((1 <<< ((nI a) &&& 31)) ^^^ (-1)))) 13 ((z 13) &&& ((1 <<< ((nI a) &&& 31)) ^^^ (-1)))) n d) (min (kp + 1) 6) wr)) (congrArg (fun q_ => xw0 cI cC cM cB ad z t sg sz r x h ah (nI nx) (nI kp) zh (lwS cI na ma (lk4Z (upd (upd (upd (upd (upd (upd z 6 ((z 6) + (z (14 + 16 * a + 1)))) (14 + 16 * a) 0) (14 + 16 * a + 1) 0) (14 + 16 * a + 2) 0) 12 ((z 12) &&& ((1 <<< ((nI a) &&& 31)) ^^^ (-1)))) 13 ((z 13) &&& ((1 <<< ((nI a) &&& 31)) ^^^ (-1)))) n d) q_ wr)) (show kp = min (kp + 1) 6 by have : ¬ kp < 6 := fun q => c36 ((nI_lti (a := kp) (b := 6) (by omega) (by omega)).mpr q); omega)) hP
                    have hD := va_D_eq (w2 := xw0 cI cC cM cB ad z t sg sz r x h ah (nI nx) (nI kp) zh (lwS cI na ma (lk4Z (upd (upd (upd (upd (upd (upd z 6 ((z 6) + (z (14 + 16 * a + 1)))) (14 + 16 * a) 0) (14 + 16 * a + 1) 0) (14 + 16 * a + 2) 0) 12 ((z 12) &&& ((1 <<< ((nI a) &&& 31)) ^^^ (-1)))) 13 ((z 13) &&& ((1 <<< ((nI a) &&& 31)) ^^^ (-1)))) n d) (min (kp + 1) 6) wr)) (congrArg (fun q_ => xw0 cI cC cM cB ad z t sg sz r x h ah (nI nx) (nI kp) zh (lwS cI na ma (lk4Z (upd (upd (upd (upd (upd (upd z 6 ((z 6) + (z (14 + 16 * a + 1)))) (14 + 16 * a) 0) (14 + 16 * a + 1) 0) (14 + 16 * a + 2) 0) 12 ((z 12) &&& ((1 <<< ((nI a) &&& 31)) ^^^ (-1)))) 13 ((z 13) &&& ((1 <<< ((nI a) &&& 31)) ^^^ (-1)))) n d) q_ wr)) (show kp = min (kp + 1) 6 by have : ¬ kp < 6 := fun q => c36 ((nI_lti (a := kp) (b := 6) (by omega) (by omega)).mpr q); omega)) hD
                    exact J663_2 _ _ hP hD hS ls (lv_sub hl [5, 6, 7, 8, 9, 10, 4, 3, 2, 1, 0] rfl)
                  · have c36 := z_lt c36
                    refine lv_aload_n hx hb dL_members_656 rfl (lv_at hl 8 rfl) ?_
                    refine lv_iconst (v := 5) hx hb dL_members_657 (by decide) ?_
                    refine lv_dup2_11 hx hb dL_members_658 rfl rfl ?_
                    refine va_iald hx hb hK hP (139 + (0)) 0 ((xw_r).trans (lw_0)) rfl (vp_in_nI (show 5 < 15 by decide) (by omega)) dL_members_659 ?_
                    refine z_top (v2 := .int (nI kp)) (congrArg Value.int (nf_5 rfl)) ?_
                    refine lv_iconst (v := 1) hx hb dL_members_660 (by decide) ?_
                    refine lv_iadd hx hb dL_members_661  ?_
                    refine z_top (v2 := .int (nI (kp + 1))) (congrArg Value.int (nI_add kp 1)) ?_
                    refine z_iast (ws2 := xw0 cI cC cM cB ad z t sg sz r x h ah (nI nx) (nI kp) zh (lwS cI na ma (lk4Z (upd (upd (upd (upd (upd (upd z 6 ((z 6) + (z (14 + 16 * a + 1)))) (14 + 16 * a) 0) (14 + 16 * a + 1) 0) (14 + 16 * a + 2) 0) 12 ((z 12) &&& ((1 <<< ((nI a) &&& 31)) ^^^ (-1)))) 13 ((z 13) &&& ((1 <<< ((nI a) &&& 31)) ^^^ (-1)))) n d) (kp + 1) wr)) hx hb hK hP hD hS (139 + (0)) 0 ((xw_r).trans (lw_0)) rfl (vp_in_nI (show 5 < 15 by decide) (by omega)) dL_members_662 ((xw_rs).trans (congrArg (fun w_ => xw0 cI cC cM cB ad z t sg sz r x h ah (nI nx) (nI kp) zh w_) (z_ixw (k := 5) rfl (by omega) (fun q_ => (lwS cI na ma (lk4Z (upd (upd (upd (upd (upd (upd z 6 ((z 6) + (z (14 + 16 * a + 1)))) (14 + 16 * a) 0) (14 + 16 * a + 1) 0) (14 + 16 * a + 2) 0) 12 ((z 12) &&& ((1 <<< ((nI a) &&& 31)) ^^^ (-1)))) 13 ((z 13) &&& ((1 <<< ((nI a) &&& 31)) ^^^ (-1)))) n d) kp wr).set 0 (na, .inl (cI, 15, .inl (upd (nfn (lk4Z (upd (upd (upd (upd (upd (upd z 6 ((z 6) + (z (14 + 16 * a + 1)))) (14 + 16 * a) 0) (14 + 16 * a + 1) 0) (14 + 16 * a + 2) 0) 12 ((z 12) &&& ((1 <<< ((nI a) &&& 31)) ^^^ (-1)))) 13 ((z 13) &&& ((1 <<< ((nI a) &&& 31)) ^^^ (-1)))) n d) kp) q_ (nI (kp + 1)))))) lw_wk))) (fun H locs hP hD hS => ?_)
                    have hP := va_P_eq (w2 := xw0 cI cC cM cB ad z t sg sz r x h ah (nI nx) (nI kp) zh (lwS cI na ma (lk4Z (upd (upd (upd (upd (upd (upd z 6 ((z 6) + (z (14 + 16 * a + 1)))) (14 + 16 * a) 0) (14 + 16 * a + 1) 0) (14 + 16 * a + 2) 0) 12 ((z 12) &&& ((1 <<< ((nI a) &&& 31)) ^^^ (-1)))) 13 ((z 13) &&& ((1 <<< ((nI a) &&& 31)) ^^^ (-1)))) n d) (min (kp + 1) 6) wr)) (congrArg (fun q_ => xw0 cI cC cM cB ad z t sg sz r x h ah (nI nx) (nI kp) zh (lwS cI na ma (lk4Z (upd (upd (upd (upd (upd (upd z 6 ((z 6) + (z (14 + 16 * a + 1)))) (14 + 16 * a) 0) (14 + 16 * a + 1) 0) (14 + 16 * a + 2) 0) 12 ((z 12) &&& ((1 <<< ((nI a) &&& 31)) ^^^ (-1)))) 13 ((z 13) &&& ((1 <<< ((nI a) &&& 31)) ^^^ (-1)))) n d) q_ wr)) (show kp + 1 = min (kp + 1) 6 by have := (nI_lti (a := kp) (b := 6) (by omega) (by omega)).mp c36; omega)) hP
                    have hD := va_D_eq (w2 := xw0 cI cC cM cB ad z t sg sz r x h ah (nI nx) (nI kp) zh (lwS cI na ma (lk4Z (upd (upd (upd (upd (upd (upd z 6 ((z 6) + (z (14 + 16 * a + 1)))) (14 + 16 * a) 0) (14 + 16 * a + 1) 0) (14 + 16 * a + 2) 0) 12 ((z 12) &&& ((1 <<< ((nI a) &&& 31)) ^^^ (-1)))) 13 ((z 13) &&& ((1 <<< ((nI a) &&& 31)) ^^^ (-1)))) n d) (min (kp + 1) 6) wr)) (congrArg (fun q_ => xw0 cI cC cM cB ad z t sg sz r x h ah (nI nx) (nI kp) zh (lwS cI na ma (lk4Z (upd (upd (upd (upd (upd (upd z 6 ((z 6) + (z (14 + 16 * a + 1)))) (14 + 16 * a) 0) (14 + 16 * a + 1) 0) (14 + 16 * a + 2) 0) 12 ((z 12) &&& ((1 <<< ((nI a) &&& 31)) ^^^ (-1)))) 13 ((z 13) &&& ((1 <<< ((nI a) &&& 31)) ^^^ (-1)))) n d) q_ wr)) (show kp + 1 = min (kp + 1) 6 by have := (nI_lti (a := kp) (b := 6) (by omega) (by omega)).mp c36; omega)) hD
                    exact J663_2 _ _ hP hD hS ls (lv_sub hl [5, 6, 7, 8, 9, 10, 4, 3, 2, 1, 0] rfl)
                · skip
                  refine lv_aload_n hx hb dL_members_625 rfl (lv_at hl 8 rfl) ?_
                  refine z_callS0 (rest := []) S (c_L_end ) qm_L_18 t_L_end ⟨Nat.le_of_ble_eq_true rfl, Nat.le_of_ble_eq_true rfl⟩ rfl rfl hN hK hP hD hS hA rfl hl.1 rfl (Nat.le_of_ble_eq_true rfl) dL_members_626 ⟨Nat.le_of_ble_eq_true rfl, Nat.le_of_ble_eq_true rfl⟩ (fun H locs hP hD hS => ?_)
                  refine lv_aload_n hx hb dL_members_629 rfl (lv_at hl 8 rfl) ?_
                  refine lv_bipush (v := 11) hx hb dL_members_630 (by decide) ?_
                  refine va_iald hx hb hK hP (139 + (0)) 0 ((xw_r).trans (lw_0)) rfl (vp_in_nI (show 11 < 15 by decide) (by omega)) dL_members_632 ?_
                  refine z_top (v2 := .int (-1)) (congrArg Value.int ((nf_11 rfl).trans (endZ_10))) ?_
                  refine lv_if_ge (tgt := 640) hx hb dL_members_633 (by decide) (fun c37 => absurd c37 (by decide)) (fun c37 => ?_)
                  have c37 := z_lt c37
                  refine lv_iconst (v := 0) hx hb dL_members_636 (by decide) ?_
                  refine lv_goto (tgt := 646) hx hb dL_members_637 (by decide) ?_
                  refine lv_istore (lv' := [(10, .int 0), (9, .int (z (14 + 16 * a + 1))), (8, .int (nI sk)), (7, .int (nI b)), (6, .int (nI a)), (0, .ref x), (1, .int xv), (2, .int yv), (3, .ref na), (4, .ref ma), (5, .int (atP xv 12))]) hx hb dL_members_646 hl (by decide) rfl (fun ls hl => ?_)
                  refine lv_aload_n hx hb dL_members_648 rfl (lv_at hl 8 rfl) ?_
                  refine lv_iconst (v := 5) hx hb dL_members_649 (by decide) ?_
                  refine va_iald hx hb hK hP (139 + (0)) 0 ((xw_r).trans (lw_0)) rfl (vp_in_nI (show 5 < 15 by decide) (by omega)) dL_members_650 ?_
                  refine z_top (v2 := .int (nI kp)) (congrArg Value.int (nf_5 rfl)) ?_
                  have J663_2 : ∀ (H : Heap) (locs : List Loc), va_P D vwCl (xw0 cI cC cM cB ad z t sg sz r x h ah (nI nx) (nI kp) zh (lwS cI na ma (endZ (upd (upd (upd (upd (upd (upd z 6 ((z 6) + (z (14 + 16 * a + 1)))) (14 + 16 * a) 0) (14 + 16 * a + 1) 0) (14 + 16 * a + 2) 0) 12 ((z 12) &&& ((1 <<< ((nI a) &&& 31)) ^^^ (-1)))) 13 ((z 13) &&& ((1 <<< ((nI a) &&& 31)) ^^^ (-1))))) (min (kp + 1) 6) wr)) H → va_D A (xw0 cI cC cM cB ad z t sg sz r x h ah (nI nx) (nI kp) zh (lwS cI na ma (endZ (upd (upd (upd (upd (upd (upd z 6 ((z 6) + (z (14 + 16 * a + 1)))) (14 + 16 * a) 0) (14 + 16 * a + 1) 0) (14 + 16 * a + 2) 0) 12 ((z 12) &&& ((1 <<< ((nI a) &&& 31)) ^^^ (-1)))) 13 ((z 13) &&& ((1 <<< ((nI a) &&& 31)) ^^^ (-1))))) (min (kp + 1) 6) wr)) → va_S A s.heap H locs → ∀ ls : Array Slot, lv_has ls 12 [(0, .ref x), (1, .int xv), (2, .int yv), (3, .ref na), (4, .ref ma), (5, .int (atP xv 12)), (6, .int (nI a)), (7, .int (nI b)), (8, .int (nI sk)), (9, .int (z (14 + 16 * a + 1))), (10, .int 0)] → W p l e ({ frames := 7, cells := 1, slots := 6, locals := 136 } : Room) s m ([.ref x, .int xv, .int yv, .ref na, .ref ma] : List Value).toArray below meth c H locs 0 0 (MQ below (zRQ D (zT cI cC cM cB cJ) (pG cI cC cM cB ad t sg sz r x h ah na ma wr (k + 1)) (some (.int 1)) A) ([.ref x, .int xv, .int yv, .ref na, .ref ma] : List Value).toArray s 1 6 A) (F0 m 663 ls []) := by
                    intro H locs hP hD hS ls hl
                    refine lv_aload_n hx hb dL_members_663 rfl (lv_at hl 0 rfl) ?_
                    refine lv_iload hx hb dL_members_664 (lv_at hl 6 rfl) ?_
                    have hM := c_X5_leave_b (l := l) (D := D) (cI := cI) (cC := cC) (cM := cM) (cB := cB) (cJ := cJ) (ad := ad) (z := z) (t := t) (h := h) (ah := ah) (zh := zh) (x := x) (sg := sg) (r := r) (sz := sz) (nx := nx) (kp := kp) (wr := lwS cI na ma (endZ (upd (upd (upd (upd (upd (upd z 6 ((z 6) + (z (14 + 16 * a + 1)))) (14 + 16 * a) 0) (14 + 16 * a + 1) 0) (14 + 16 * a + 2) 0) 12 ((z 12) &&& ((1 <<< ((nI a) &&& 31)) ^^^ (-1)))) 13 ((z 13) &&& ((1 <<< ((nI a) &&& 31)) ^^^ (-1))))) (min (kp + 1) 6) wr) hfl (n := n) (by omega) hz hnx hkp hB hd hz10 (nI a)
                    rw [cl_nI (show a < 2 ^ 31 by omega)] at hM
                    refine z_callX (rest := []) S hM qm_L_51 v_X5_leave ⟨Nat.le_of_ble_eq_true rfl, Nat.le_of_ble_eq_true rfl⟩ rfl rfl hJ hN hK hP hD hS hA 22 xw_x rfl rfl hl.1 rfl (Nat.le_of_ble_eq_true rfl) dL_members_666 ⟨Nat.le_of_ble_eq_true rfl, Nat.le_of_ble_eq_true rfl⟩ (fun _ H locs hP hD hS => ?_) (fun q_ => absurd (kg_leave (by omega) (by omega) c17 c18) q_)
                    refine W.eq (g2 := F0 m 669 ls [.int (z (14 + 16 * a + 1))]) rfl ?_
                    refine lv_iload hx hb dL_members_669 (lv_at hl 9 rfl) ?_
                    refine lv_icmp_ne (tgt := 683) hx hb dL_members_671 (by decide) (fun c38 => absurd c38 (not_not_intro rfl)) (fun c38 => ?_)
                    refine lv_iload hx hb dL_members_674 (lv_at hl 10 rfl) ?_
                    refine lv_if_lt (tgt := 683) hx hb dL_members_676 (by decide) (fun c39 => absurd c39 (by decide)) (fun c39 => ?_)
                    refine lv_iconst (v := 1) hx hb dL_members_679 (by decide) ?_
                    refine lv_goto (tgt := 684) hx hb dL_members_680 (by decide) ?_
                    obtain ⟨z2_, q1_, q2_, q3_, q4_⟩ := ps_leave_b hk hI (by omega) (show a < n by omega) hd hz10
                    exact z_zretR hx hb hr hlocks hP hD hK hS (pg_mk q1_ q2_ (q3_ c32) rfl) rfl rfl dL_members_684
                  refine lv_bipush (v := 6) hx hb dL_members_651 (by decide) ?_
                  refine lv_icmp_ge (tgt := 663) hx hb dL_members_653 (by decide) (fun c40 => ?_) (fun c40 => ?_)
                  · have c40 := z_nlt c40
                    have hP := va_P_eq (w2 := xw0 cI cC cM cB ad z t sg sz r x h ah (nI nx) (nI kp) zh (lwS cI na ma (endZ (upd (upd (upd (upd (upd (upd z 6 ((z 6) + (z (14 + 16 * a + 1)))) (14 + 16 * a) 0) (14 + 16 * a + 1) 0) (14 + 16 * a + 2) 0) 12 ((z 12) &&& ((1 <<< ((nI a) &&& 31)) ^^^ (-1)))) 13 ((z 13) &&& ((1 <<< ((nI a) &&& 31)) ^^^ (-1))))) (min (kp + 1) 6) wr)) (congrArg (fun q_ => xw0 cI cC cM cB ad z t sg sz r x h ah (nI nx) (nI kp) zh (lwS cI na ma (endZ (upd (upd (upd (upd (upd (upd z 6 ((z 6) + (z (14 + 16 * a + 1)))) (14 + 16 * a) 0) (14 + 16 * a + 1) 0) (14 + 16 * a + 2) 0) 12 ((z 12) &&& ((1 <<< ((nI a) &&& 31)) ^^^ (-1)))) 13 ((z 13) &&& ((1 <<< ((nI a) &&& 31)) ^^^ (-1))))) q_ wr)) (show kp = min (kp + 1) 6 by have : ¬ kp < 6 := fun q => c40 ((nI_lti (a := kp) (b := 6) (by omega) (by omega)).mpr q); omega)) hP
                    have hD := va_D_eq (w2 := xw0 cI cC cM cB ad z t sg sz r x h ah (nI nx) (nI kp) zh (lwS cI na ma (endZ (upd (upd (upd (upd (upd (upd z 6 ((z 6) + (z (14 + 16 * a + 1)))) (14 + 16 * a) 0) (14 + 16 * a + 1) 0) (14 + 16 * a + 2) 0) 12 ((z 12) &&& ((1 <<< ((nI a) &&& 31)) ^^^ (-1)))) 13 ((z 13) &&& ((1 <<< ((nI a) &&& 31)) ^^^ (-1))))) (min (kp + 1) 6) wr)) (congrArg (fun q_ => xw0 cI cC cM cB ad z t sg sz r x h ah (nI nx) (nI kp) zh (lwS cI na ma (endZ (upd (upd (upd (upd (upd (upd z 6 ((z 6) + (z (14 + 16 * a + 1)))) (14 + 16 * a) 0) (14 + 16 * a + 1) 0) (14 + 16 * a + 2) 0) 12 ((z 12) &&& ((1 <<< ((nI a) &&& 31)) ^^^ (-1)))) 13 ((z 13) &&& ((1 <<< ((nI a) &&& 31)) ^^^ (-1))))) q_ wr)) (show kp = min (kp + 1) 6 by have : ¬ kp < 6 := fun q => c40 ((nI_lti (a := kp) (b := 6) (by omega) (by omega)).mpr q); omega)) hD
                    exact J663_2 _ _ hP hD hS ls (lv_sub hl [5, 6, 7, 8, 9, 10, 4, 3, 2, 1, 0] rfl)
                  · have c40 := z_lt c40
                    refine lv_aload_n hx hb dL_members_656 rfl (lv_at hl 8 rfl) ?_
                    refine lv_iconst (v := 5) hx hb dL_members_657 (by decide) ?_
                    refine lv_dup2_11 hx hb dL_members_658 rfl rfl ?_
                    refine va_iald hx hb hK hP (139 + (0)) 0 ((xw_r).trans (lw_0)) rfl (vp_in_nI (show 5 < 15 by decide) (by omega)) dL_members_659 ?_
                    refine z_top (v2 := .int (nI kp)) (congrArg Value.int (nf_5 rfl)) ?_
                    refine lv_iconst (v := 1) hx hb dL_members_660 (by decide) ?_
                    refine lv_iadd hx hb dL_members_661  ?_
                    refine z_top (v2 := .int (nI (kp + 1))) (congrArg Value.int (nI_add kp 1)) ?_
                    refine z_iast (ws2 := xw0 cI cC cM cB ad z t sg sz r x h ah (nI nx) (nI kp) zh (lwS cI na ma (endZ (upd (upd (upd (upd (upd (upd z 6 ((z 6) + (z (14 + 16 * a + 1)))) (14 + 16 * a) 0) (14 + 16 * a + 1) 0) (14 + 16 * a + 2) 0) 12 ((z 12) &&& ((1 <<< ((nI a) &&& 31)) ^^^ (-1)))) 13 ((z 13) &&& ((1 <<< ((nI a) &&& 31)) ^^^ (-1))))) (kp + 1) wr)) hx hb hK hP hD hS (139 + (0)) 0 ((xw_r).trans (lw_0)) rfl (vp_in_nI (show 5 < 15 by decide) (by omega)) dL_members_662 ((xw_rs).trans (congrArg (fun w_ => xw0 cI cC cM cB ad z t sg sz r x h ah (nI nx) (nI kp) zh w_) (z_ixw (k := 5) rfl (by omega) (fun q_ => (lwS cI na ma (endZ (upd (upd (upd (upd (upd (upd z 6 ((z 6) + (z (14 + 16 * a + 1)))) (14 + 16 * a) 0) (14 + 16 * a + 1) 0) (14 + 16 * a + 2) 0) 12 ((z 12) &&& ((1 <<< ((nI a) &&& 31)) ^^^ (-1)))) 13 ((z 13) &&& ((1 <<< ((nI a) &&& 31)) ^^^ (-1))))) kp wr).set 0 (na, .inl (cI, 15, .inl (upd (nfn (endZ (upd (upd (upd (upd (upd (upd z 6 ((z 6) + (z (14 + 16 * a + 1)))) (14 + 16 * a) 0) (14 + 16 * a + 1) 0) (14 + 16 * a + 2) 0) 12 ((z 12) &&& ((1 <<< ((nI a) &&& 31)) ^^^ (-1)))) 13 ((z 13) &&& ((1 <<< ((nI a) &&& 31)) ^^^ (-1))))) kp) q_ (nI (kp + 1)))))) lw_wk))) (fun H locs hP hD hS => ?_)
                    have hP := va_P_eq (w2 := xw0 cI cC cM cB ad z t sg sz r x h ah (nI nx) (nI kp) zh (lwS cI na ma (endZ (upd (upd (upd (upd (upd (upd z 6 ((z 6) + (z (14 + 16 * a + 1)))) (14 + 16 * a) 0) (14 + 16 * a + 1) 0) (14 + 16 * a + 2) 0) 12 ((z 12) &&& ((1 <<< ((nI a) &&& 31)) ^^^ (-1)))) 13 ((z 13) &&& ((1 <<< ((nI a) &&& 31)) ^^^ (-1))))) (min (kp + 1) 6) wr)) (congrArg (fun q_ => xw0 cI cC cM cB ad z t sg sz r x h ah (nI nx) (nI kp) zh (lwS cI na ma (endZ (upd (upd (upd (upd (upd (upd z 6 ((z 6) + (z (14 + 16 * a + 1)))) (14 + 16 * a) 0) (14 + 16 * a + 1) 0) (14 + 16 * a + 2) 0) 12 ((z 12) &&& ((1 <<< ((nI a) &&& 31)) ^^^ (-1)))) 13 ((z 13) &&& ((1 <<< ((nI a) &&& 31)) ^^^ (-1))))) q_ wr)) (show kp + 1 = min (kp + 1) 6 by have := (nI_lti (a := kp) (b := 6) (by omega) (by omega)).mp c40; omega)) hP
                    have hD := va_D_eq (w2 := xw0 cI cC cM cB ad z t sg sz r x h ah (nI nx) (nI kp) zh (lwS cI na ma (endZ (upd (upd (upd (upd (upd (upd z 6 ((z 6) + (z (14 + 16 * a + 1)))) (14 + 16 * a) 0) (14 + 16 * a + 1) 0) (14 + 16 * a + 2) 0) 12 ((z 12) &&& ((1 <<< ((nI a) &&& 31)) ^^^ (-1)))) 13 ((z 13) &&& ((1 <<< ((nI a) &&& 31)) ^^^ (-1))))) (min (kp + 1) 6) wr)) (congrArg (fun q_ => xw0 cI cC cM cB ad z t sg sz r x h ah (nI nx) (nI kp) zh (lwS cI na ma (endZ (upd (upd (upd (upd (upd (upd z 6 ((z 6) + (z (14 + 16 * a + 1)))) (14 + 16 * a) 0) (14 + 16 * a + 1) 0) (14 + 16 * a + 2) 0) 12 ((z 12) &&& ((1 <<< ((nI a) &&& 31)) ^^^ (-1)))) 13 ((z 13) &&& ((1 <<< ((nI a) &&& 31)) ^^^ (-1))))) q_ wr)) (show kp + 1 = min (kp + 1) 6 by have := (nI_lti (a := kp) (b := 6) (by omega) (by omega)).mp c40; omega)) hD
                    exact J663_2 _ _ hP hD hS ls (lv_sub hl [5, 6, 7, 8, 9, 10, 4, 3, 2, 1, 0] rfl)
            · have c18 := z_lt c18
              refine lv_iconst (v := 1) hx hb dL_members_541 (by decide) ?_
              refine W.widen (k := 1) (n := 6) (by decide) (by decide) ?_
              exact z_zretR hx hb hr hlocks hP hD hK hS (pg_id (pI_same hI (by omega))) rfl rfl dL_members_542
    · have c3 := z_lt c3
      refine lv_iconst (v := 1) hx hb dL_members_150 (by decide) ?_
      refine lv_iload_n hx hb dL_members_151 rfl (lv_at hl 5 rfl) ?_
      refine lv_bipush (v := 7) hx hb dL_members_152 (by decide) ?_
      refine lv_ishr hx hb dL_members_154  ?_
      refine lv_sipush (v := 600) hx hb dL_members_155 (by decide) ?_
      refine z_callS1 (rest := [.int 1]) S (c_L_at (yv >>> (7 &&& 31)) 600 (by decide)) qm_L_26 t_L_at ⟨Nat.le_of_ble_eq_true rfl, Nat.le_of_ble_eq_true rfl⟩ rfl rfl hN hK hP hD hS hA rfl hl.1 rfl (Nat.le_of_ble_eq_true rfl) dL_members_158 ⟨Nat.le_of_ble_eq_true rfl, Nat.le_of_ble_eq_true rfl⟩ (fun H locs hP hD hS => ?_)
      obtain ⟨m_, h_m_, e_m_⟩ := at_nat (x := (yv >>> (7 &&& 31))) (N := 600) (by omega) (by omega)
      refine z_top (v2 := .int (nI m_)) (congrArg Value.int e_m_) ?_
      refine lv_iadd hx hb dL_members_161  ?_
      refine z_top (v2 := .int (nI (1 + m_))) (congrArg Value.int (nI_add 1 m_)) ?_
      refine lv_istore (lv' := [(9, .int (nI (1 + m_))), (8, .int (nI sk)), (7, .int (nI b)), (6, .int (nI a)), (0, .ref x), (1, .int xv), (2, .int yv), (3, .ref na), (4, .ref ma), (5, .int (atP xv 12))]) hx hb dL_members_162 hl (by decide) rfl (fun ls hl => ?_)
      refine lv_aload_n hx hb dL_members_164 rfl (lv_at hl 7 rfl) ?_
      refine lv_aload hx hb dL_members_165 (lv_at hl 8 rfl) ?_
      refine lv_iload hx hb dL_members_167 (lv_at hl 3 rfl) ?_
      refine lv_iload hx hb dL_members_169 (lv_at hl 2 rfl) ?_
      refine lv_iload hx hb dL_members_171 (lv_at hl 1 rfl) ?_
      refine lv_iload hx hb dL_members_173 (lv_at hl 0 rfl) ?_
      refine z_callS1 (rest := []) S (c_L_can a b sk (by omega) (by omega) (by omega) (nI (1 + m_))) qm_L_36 t_L_can ⟨Nat.le_of_ble_eq_true rfl, Nat.le_of_ble_eq_true rfl⟩ rfl rfl hN hK hP hD hS hA rfl hl.1 rfl (Nat.le_of_ble_eq_true rfl) dL_members_175 ⟨Nat.le_of_ble_eq_true rfl, Nat.le_of_ble_eq_true rfl⟩ (fun H locs hP hD hS => ?_)
      refine lv_if_ne (tgt := 211) hx hb dL_members_178 (by decide) (fun c41 => ?_) (fun c41 => ?_)
      · have c41 := bI_1 c41
        have hab : a ≠ b := fun q => c41.1 (by rw [q])
        refine lv_aload hx hb dL_members_211 (lv_at hl 8 rfl) ?_
        refine lv_iload hx hb dL_members_213 (lv_at hl 3 rfl) ?_
        refine lv_iload hx hb dL_members_215 (lv_at hl 1 rfl) ?_
        refine lv_iload hx hb dL_members_217 (lv_at hl 0 rfl) ?_
        refine z_callS1 (rest := []) S (c_L_value a sk (by omega) (by omega) (nI (1 + m_))) qm_L_22 t_L_value ⟨Nat.le_of_ble_eq_true rfl, Nat.le_of_ble_eq_true rfl⟩ rfl rfl hN hK hP hD hS hA rfl hl.1 rfl (Nat.le_of_ble_eq_true rfl) dL_members_219 ⟨Nat.le_of_ble_eq_true rfl, Nat.le_of_ble_eq_true rfl⟩ (fun H locs hP hD hS => ?_)
        refine lv_istore (lv' := [(10, .int (valP (z (25 + 16 * a + sk)) (nI (1 + m_)))), (9, .int (nI (1 + m_))), (8, .int (nI sk)), (7, .int (nI b)), (6, .int (nI a)), (0, .ref x), (1, .int xv), (2, .int yv), (3, .ref na), (4, .ref ma), (5, .int (atP xv 12))]) hx hb dL_members_222 hl (by decide) rfl (fun ls hl => ?_)
        refine lv_iload hx hb dL_members_224 (lv_at hl 0 rfl) ?_
        refine lv_iconst (v := 2) hx hb dL_members_226 (by decide) ?_
        refine lv_idiv hx hb dL_members_227 (by decide) ?_
        refine lv_istore (lv' := [(11, .int ((valP (z (25 + 16 * a + sk)) (nI (1 + m_))) / 2)), (10, .int (valP (z (25 + 16 * a + sk)) (nI (1 + m_)))), (9, .int (nI (1 + m_))), (8, .int (nI sk)), (7, .int (nI b)), (6, .int (nI a)), (0, .ref x), (1, .int xv), (2, .int yv), (3, .ref na), (4, .ref ma), (5, .int (atP xv 12))]) hx hb dL_members_228 hl (by decide) rfl (fun ls hl => ?_)
        refine lv_iload hx hb dL_members_230 (lv_at hl 0 rfl) ?_
        refine lv_aload hx hb dL_members_232 (lv_at hl 10 rfl) ?_
        refine lv_bipush (v := 16) hx hb dL_members_234 (by decide) ?_
        refine lv_iload hx hb dL_members_236 (lv_at hl 5 rfl) ?_
        refine lv_imul hx hb dL_members_238 ?_
        refine z_top (v2 := .int (nI (16 * a))) (congrArg Value.int (pk_mul 16 a)) ?_
        refine lv_iconst (v := 2) hx hb dL_members_239 (by decide) ?_
        refine lv_iadd hx hb dL_members_240  ?_
        refine z_top (v2 := .int (nI (16 * a + 2))) (congrArg Value.int (nI_add (16 * a) 2)) ?_
        refine va_iald hx hb hK hP (139 + (1)) 0 ((xw_r).trans (lw_1)) rfl (vp_in_nI (show 16 * a + 2 < 64 by omega) (by omega)) dL_members_241 ?_
        refine z_top (v2 := .int (z (14 + 16 * a + 2))) (congrArg Value.int ((lm_at rfl (show 16 * a + 2 < 64 by omega) (show 14 + (16 * a + 2) = 14 + 16 * a + 2 by omega)).trans (rfl))) ?_
        have J257_1 : ∀ (H : Heap) (locs : List Loc), va_P D vwCl (xw0 cI cC cM cB ad z t sg sz r x h ah (nI nx) (nI kp) zh (lwS cI na ma z kp wr)) H → va_D A (xw0 cI cC cM cB ad z t sg sz r x h ah (nI nx) (nI kp) zh (lwS cI na ma z kp wr)) → va_S A s.heap H locs → ∀ ls : Array Slot, lv_has ls 12 [(0, .ref x), (1, .int xv), (2, .int yv), (3, .ref na), (4, .ref ma), (5, .int (atP xv 12)), (6, .int (nI a)), (7, .int (nI b)), (8, .int (nI sk)), (9, .int (nI (1 + m_))), (10, .int (valP (z (25 + 16 * a + sk)) (nI (1 + m_)))), (11, .int (minP ((valP (z (25 + 16 * a + sk)) (nI (1 + m_))) / 2) (z (14 + 16 * a + 2))))] → W p l e ({ frames := 7, cells := 1, slots := 6, locals := 136 } : Room) s m ([.ref x, .int xv, .int yv, .ref na, .ref ma] : List Value).toArray below meth c H locs 0 0 (MQ below (zRQ D (zT cI cC cM cB cJ) (pG cI cC cM cB ad t sg sz r x h ah na ma wr (k + 1)) (some (.int 1)) A) ([.ref x, .int xv, .int yv, .ref na, .ref ma] : List Value).toArray s 1 6 A) (F0 m 257 ls []) := by
          intro H locs hP hD hS ls hl
          refine lv_aload hx hb dL_members_257 (lv_at hl 4 rfl) ?_
          refine lv_bipush (v := 16) hx hb dL_members_259 (by decide) ?_
          refine lv_iload hx hb dL_members_261 (lv_at hl 6 rfl) ?_
          refine lv_imul hx hb dL_members_263 ?_
          refine z_top (v2 := .int (nI (16 * a))) (congrArg Value.int (pk_mul 16 a)) ?_
          refine lv_iconst (v := 1) hx hb dL_members_264 (by decide) ?_
          refine lv_iadd hx hb dL_members_265  ?_
          refine z_top (v2 := .int (nI (16 * a + 1))) (congrArg Value.int (nI_add (16 * a) 1)) ?_
          refine lv_dup2_11 hx hb dL_members_266 rfl rfl ?_
          refine va_iald hx hb hK hP (139 + (1)) 0 ((xw_r).trans (lw_1)) rfl (vp_in_nI (show 16 * a + 1 < 64 by omega) (by omega)) dL_members_267 ?_
          refine z_top (v2 := .int (z (14 + 16 * a + 1))) (congrArg Value.int ((lm_at rfl (show 16 * a + 1 < 64 by omega) (show 14 + (16 * a + 1) = 14 + 16 * a + 1 by omega)).trans (rfl))) ?_
          refine lv_iload hx hb dL_members_268 (lv_at hl 10 rfl) ?_
          refine lv_iload hx hb dL_members_270 (lv_at hl 11 rfl) ?_
          refine lv_isub hx hb dL_members_272  ?_
          refine lv_iadd hx hb dL_members_273  ?_
          refine z_iast (ws2 := xw0 cI cC cM cB ad z t sg sz r x h ah (nI nx) (nI kp) zh (lwS cI na ma (upd z (14 + 16 * a + 1) ((z (14 + 16 * a + 1)) + ((valP (z (25 + 16 * a + sk)) (nI (1 + m_))) - (minP ((valP (z (25 + 16 * a + sk)) (nI (1 + m_))) / 2) (z (14 + 16 * a + 2)))))) kp wr)) hx hb hK hP hD hS (139 + (1)) 0 ((xw_r).trans (lw_1)) rfl (vp_in_nI (show 16 * a + 1 < 64 by omega) (by omega)) dL_members_274 ((xw_rs).trans (congrArg (fun w_ => xw0 cI cC cM cB ad z t sg sz r x h ah (nI nx) (nI kp) zh w_) (z_ixw rfl (show 16 * a + 1 < 2 ^ 31 by omega) (fun q_ => (lwS cI na ma z kp wr).set 1 (ma, .inl (cI, 64, .inl (upd (mfn z) q_ ((z (14 + 16 * a + 1)) + ((valP (z (25 + 16 * a + sk)) (nI (1 + m_))) - (minP ((valP (z (25 + 16 * a + sk)) (nI (1 + m_))) / 2) (z (14 + 16 * a + 2))))))))) (lw_wm (show 16 * a + 1 < 64 by omega) (show 14 + (16 * a + 1) = 14 + 16 * a + 1 by omega))))) (fun H locs hP hD hS => ?_)
          refine lv_aload hx hb dL_members_275 (lv_at hl 4 rfl) ?_
          refine lv_bipush (v := 16) hx hb dL_members_277 (by decide) ?_
          refine lv_iload hx hb dL_members_279 (lv_at hl 6 rfl) ?_
          refine lv_imul hx hb dL_members_281 ?_
          refine z_top (v2 := .int (nI (16 * a))) (congrArg Value.int (pk_mul 16 a)) ?_
          refine lv_iconst (v := 2) hx hb dL_members_282 (by decide) ?_
          refine lv_iadd hx hb dL_members_283  ?_
          refine z_top (v2 := .int (nI (16 * a + 2))) (congrArg Value.int (nI_add (16 * a) 2)) ?_
          refine lv_dup2_11 hx hb dL_members_284 rfl rfl ?_
          refine va_iald hx hb hK hP (139 + (1)) 0 ((xw_r).trans (lw_1)) rfl (vp_in_nI (show 16 * a + 2 < 64 by omega) (by omega)) dL_members_285 ?_
          refine z_top (v2 := .int (z (14 + 16 * a + 2))) (congrArg Value.int ((lm_at rfl (show 16 * a + 2 < 64 by omega) (show 14 + (16 * a + 2) = 14 + 16 * a + 2 by omega)).trans ((upd_ne (by omega)).trans (rfl)))) ?_
          refine lv_iload hx hb dL_members_286 (lv_at hl 11 rfl) ?_
          refine lv_isub hx hb dL_members_288  ?_
          refine z_iast (ws2 := xw0 cI cC cM cB ad z t sg sz r x h ah (nI nx) (nI kp) zh (lwS cI na ma (upd (upd z (14 + 16 * a + 1) ((z (14 + 16 * a + 1)) + ((valP (z (25 + 16 * a + sk)) (nI (1 + m_))) - (minP ((valP (z (25 + 16 * a + sk)) (nI (1 + m_))) / 2) (z (14 + 16 * a + 2)))))) (14 + 16 * a + 2) ((z (14 + 16 * a + 2)) - (minP ((valP (z (25 + 16 * a + sk)) (nI (1 + m_))) / 2) (z (14 + 16 * a + 2))))) kp wr)) hx hb hK hP hD hS (139 + (1)) 0 ((xw_r).trans (lw_1)) rfl (vp_in_nI (show 16 * a + 2 < 64 by omega) (by omega)) dL_members_289 ((xw_rs).trans (congrArg (fun w_ => xw0 cI cC cM cB ad z t sg sz r x h ah (nI nx) (nI kp) zh w_) (z_ixw rfl (show 16 * a + 2 < 2 ^ 31 by omega) (fun q_ => (lwS cI na ma (upd z (14 + 16 * a + 1) ((z (14 + 16 * a + 1)) + ((valP (z (25 + 16 * a + sk)) (nI (1 + m_))) - (minP ((valP (z (25 + 16 * a + sk)) (nI (1 + m_))) / 2) (z (14 + 16 * a + 2)))))) kp wr).set 1 (ma, .inl (cI, 64, .inl (upd (mfn (upd z (14 + 16 * a + 1) ((z (14 + 16 * a + 1)) + ((valP (z (25 + 16 * a + sk)) (nI (1 + m_))) - (minP ((valP (z (25 + 16 * a + sk)) (nI (1 + m_))) / 2) (z (14 + 16 * a + 2))))))) q_ ((z (14 + 16 * a + 2)) - (minP ((valP (z (25 + 16 * a + sk)) (nI (1 + m_))) / 2) (z (14 + 16 * a + 2)))))))) (lw_wm (show 16 * a + 2 < 64 by omega) (show 14 + (16 * a + 2) = 14 + 16 * a + 2 by omega))))) (fun H locs hP hD hS => ?_)
          refine lv_aload_n hx hb dL_members_290 rfl (lv_at hl 3 rfl) ?_
          refine lv_iconst (v := 1) hx hb dL_members_291 (by decide) ?_
          refine lv_dup2_11 hx hb dL_members_292 rfl rfl ?_
          refine va_iald hx hb hK hP (139 + (0)) 0 ((xw_r).trans (lw_0)) rfl (vp_in_nI (show 1 < 15 by decide) (by omega)) dL_members_293 ?_
          refine z_top (v2 := .int (z 6)) (congrArg Value.int ((nf_1 rfl).trans ((upd_ne (by omega)).trans ((upd_ne (by omega)).trans (rfl))))) ?_
          refine lv_iload hx hb dL_members_294 (lv_at hl 11 rfl) ?_
          refine lv_iadd hx hb dL_members_296  ?_
          refine z_iast (ws2 := xw0 cI cC cM cB ad z t sg sz r x h ah (nI nx) (nI kp) zh (lwS cI na ma (upd (upd (upd z (14 + 16 * a + 1) ((z (14 + 16 * a + 1)) + ((valP (z (25 + 16 * a + sk)) (nI (1 + m_))) - (minP ((valP (z (25 + 16 * a + sk)) (nI (1 + m_))) / 2) (z (14 + 16 * a + 2)))))) (14 + 16 * a + 2) ((z (14 + 16 * a + 2)) - (minP ((valP (z (25 + 16 * a + sk)) (nI (1 + m_))) / 2) (z (14 + 16 * a + 2))))) 6 ((z 6) + (minP ((valP (z (25 + 16 * a + sk)) (nI (1 + m_))) / 2) (z (14 + 16 * a + 2))))) kp wr)) hx hb hK hP hD hS (139 + (0)) 0 ((xw_r).trans (lw_0)) rfl (vp_in_nI (show 1 < 15 by decide) (by omega)) dL_members_297 ((xw_rs).trans (congrArg (fun w_ => xw0 cI cC cM cB ad z t sg sz r x h ah (nI nx) (nI kp) zh w_) (z_ixw (k := 1) rfl (by omega) (fun q_ => (lwS cI na ma (upd (upd z (14 + 16 * a + 1) ((z (14 + 16 * a + 1)) + ((valP (z (25 + 16 * a + sk)) (nI (1 + m_))) - (minP ((valP (z (25 + 16 * a + sk)) (nI (1 + m_))) / 2) (z (14 + 16 * a + 2)))))) (14 + 16 * a + 2) ((z (14 + 16 * a + 2)) - (minP ((valP (z (25 + 16 * a + sk)) (nI (1 + m_))) / 2) (z (14 + 16 * a + 2))))) kp wr).set 0 (na, .inl (cI, 15, .inl (upd (nfn (upd (upd z (14 + 16 * a + 1) ((z (14 + 16 * a + 1)) + ((valP (z (25 + 16 * a + sk)) (nI (1 + m_))) - (minP ((valP (z (25 + 16 * a + sk)) (nI (1 + m_))) / 2) (z (14 + 16 * a + 2)))))) (14 + 16 * a + 2) ((z (14 + 16 * a + 2)) - (minP ((valP (z (25 + 16 * a + sk)) (nI (1 + m_))) / 2) (z (14 + 16 * a + 2))))) kp) q_ ((z 6) + (minP ((valP (z (25 + 16 * a + sk)) (nI (1 + m_))) / 2) (z (14 + 16 * a + 2)))))))) (lw_wx (by decide) (by decide) rfl)))) (fun H locs hP hD hS => ?_)
          refine lv_aload hx hb dL_members_298 (lv_at hl 4 rfl) ?_
          refine lv_bipush (v := 16) hx hb dL_members_300 (by decide) ?_
          refine lv_iload hx hb dL_members_302 (lv_at hl 6 rfl) ?_
          refine lv_imul hx hb dL_members_304 ?_
          refine z_top (v2 := .int (nI (16 * a))) (congrArg Value.int (pk_mul 16 a)) ?_
          refine lv_iconst (v := 4) hx hb dL_members_305 (by decide) ?_
          refine lv_iadd hx hb dL_members_306  ?_
          refine z_top (v2 := .int (nI (16 * a + 4))) (congrArg Value.int (nI_add (16 * a) 4)) ?_
          refine lv_iconst (v := 1) hx hb dL_members_307 (by decide) ?_
          refine z_iast (ws2 := xw0 cI cC cM cB ad z t sg sz r x h ah (nI nx) (nI kp) zh (lwS cI na ma (upd (upd (upd (upd z (14 + 16 * a + 1) ((z (14 + 16 * a + 1)) + ((valP (z (25 + 16 * a + sk)) (nI (1 + m_))) - (minP ((valP (z (25 + 16 * a + sk)) (nI (1 + m_))) / 2) (z (14 + 16 * a + 2)))))) (14 + 16 * a + 2) ((z (14 + 16 * a + 2)) - (minP ((valP (z (25 + 16 * a + sk)) (nI (1 + m_))) / 2) (z (14 + 16 * a + 2))))) 6 ((z 6) + (minP ((valP (z (25 + 16 * a + sk)) (nI (1 + m_))) / 2) (z (14 + 16 * a + 2))))) (14 + 16 * a + 4) 1) kp wr)) hx hb hK hP hD hS (139 + (1)) 0 ((xw_r).trans (lw_1)) rfl (vp_in_nI (show 16 * a + 4 < 64 by omega) (by omega)) dL_members_308 ((xw_rs).trans (congrArg (fun w_ => xw0 cI cC cM cB ad z t sg sz r x h ah (nI nx) (nI kp) zh w_) (z_ixw rfl (show 16 * a + 4 < 2 ^ 31 by omega) (fun q_ => (lwS cI na ma (upd (upd (upd z (14 + 16 * a + 1) ((z (14 + 16 * a + 1)) + ((valP (z (25 + 16 * a + sk)) (nI (1 + m_))) - (minP ((valP (z (25 + 16 * a + sk)) (nI (1 + m_))) / 2) (z (14 + 16 * a + 2)))))) (14 + 16 * a + 2) ((z (14 + 16 * a + 2)) - (minP ((valP (z (25 + 16 * a + sk)) (nI (1 + m_))) / 2) (z (14 + 16 * a + 2))))) 6 ((z 6) + (minP ((valP (z (25 + 16 * a + sk)) (nI (1 + m_))) / 2) (z (14 + 16 * a + 2))))) kp wr).set 1 (ma, .inl (cI, 64, .inl (upd (mfn (upd (upd (upd z (14 + 16 * a + 1) ((z (14 + 16 * a + 1)) + ((valP (z (25 + 16 * a + sk)) (nI (1 + m_))) - (minP ((valP (z (25 + 16 * a + sk)) (nI (1 + m_))) / 2) (z (14 + 16 * a + 2)))))) (14 + 16 * a + 2) ((z (14 + 16 * a + 2)) - (minP ((valP (z (25 + 16 * a + sk)) (nI (1 + m_))) / 2) (z (14 + 16 * a + 2))))) 6 ((z 6) + (minP ((valP (z (25 + 16 * a + sk)) (nI (1 + m_))) / 2) (z (14 + 16 * a + 2)))))) q_ 1)))) (lw_wm (show 16 * a + 4 < 64 by omega) (show 14 + (16 * a + 4) = 14 + 16 * a + 4 by omega))))) (fun H locs hP hD hS => ?_)
          refine lv_aload hx hb dL_members_309 (lv_at hl 4 rfl) ?_
          refine lv_bipush (v := 16) hx hb dL_members_311 (by decide) ?_
          refine lv_iload hx hb dL_members_313 (lv_at hl 6 rfl) ?_
          refine lv_imul hx hb dL_members_315 ?_
          refine z_top (v2 := .int (nI (16 * a))) (congrArg Value.int (pk_mul 16 a)) ?_
          refine lv_iconst (v := 5) hx hb dL_members_316 (by decide) ?_
          refine lv_iadd hx hb dL_members_317  ?_
          refine z_top (v2 := .int (nI (16 * a + 5))) (congrArg Value.int (nI_add (16 * a) 5)) ?_
          refine lv_dup2_11 hx hb dL_members_318 rfl rfl ?_
          refine va_iald hx hb hK hP (139 + (1)) 0 ((xw_r).trans (lw_1)) rfl (vp_in_nI (show 16 * a + 5 < 64 by omega) (by omega)) dL_members_319 ?_
          refine z_top (v2 := .int (z (14 + 16 * a + 5))) (congrArg Value.int ((lm_at rfl (show 16 * a + 5 < 64 by omega) (show 14 + (16 * a + 5) = 14 + 16 * a + 5 by omega)).trans ((upd_ne (by omega)).trans ((upd_ne (by omega)).trans ((upd_ne (by omega)).trans ((upd_ne (by omega)).trans (rfl))))))) ?_
          refine lv_iload hx hb dL_members_320 (lv_at hl 9 rfl) ?_
          refine lv_iadd hx hb dL_members_322  ?_
          refine z_iast (ws2 := xw0 cI cC cM cB ad z t sg sz r x h ah (nI nx) (nI kp) zh (lwS cI na ma (upd (upd (upd (upd (upd z (14 + 16 * a + 1) ((z (14 + 16 * a + 1)) + ((valP (z (25 + 16 * a + sk)) (nI (1 + m_))) - (minP ((valP (z (25 + 16 * a + sk)) (nI (1 + m_))) / 2) (z (14 + 16 * a + 2)))))) (14 + 16 * a + 2) ((z (14 + 16 * a + 2)) - (minP ((valP (z (25 + 16 * a + sk)) (nI (1 + m_))) / 2) (z (14 + 16 * a + 2))))) 6 ((z 6) + (minP ((valP (z (25 + 16 * a + sk)) (nI (1 + m_))) / 2) (z (14 + 16 * a + 2))))) (14 + 16 * a + 4) 1) (14 + 16 * a + 5) ((z (14 + 16 * a + 5)) + (nI (1 + m_)))) kp wr)) hx hb hK hP hD hS (139 + (1)) 0 ((xw_r).trans (lw_1)) rfl (vp_in_nI (show 16 * a + 5 < 64 by omega) (by omega)) dL_members_323 ((xw_rs).trans (congrArg (fun w_ => xw0 cI cC cM cB ad z t sg sz r x h ah (nI nx) (nI kp) zh w_) (z_ixw rfl (show 16 * a + 5 < 2 ^ 31 by omega) (fun q_ => (lwS cI na ma (upd (upd (upd (upd z (14 + 16 * a + 1) ((z (14 + 16 * a + 1)) + ((valP (z (25 + 16 * a + sk)) (nI (1 + m_))) - (minP ((valP (z (25 + 16 * a + sk)) (nI (1 + m_))) / 2) (z (14 + 16 * a + 2)))))) (14 + 16 * a + 2) ((z (14 + 16 * a + 2)) - (minP ((valP (z (25 + 16 * a + sk)) (nI (1 + m_))) / 2) (z (14 + 16 * a + 2))))) 6 ((z 6) + (minP ((valP (z (25 + 16 * a + sk)) (nI (1 + m_))) / 2) (z (14 + 16 * a + 2))))) (14 + 16 * a + 4) 1) kp wr).set 1 (ma, .inl (cI, 64, .inl (upd (mfn (upd (upd (upd (upd z (14 + 16 * a + 1) ((z (14 + 16 * a + 1)) + ((valP (z (25 + 16 * a + sk)) (nI (1 + m_))) - (minP ((valP (z (25 + 16 * a + sk)) (nI (1 + m_))) / 2) (z (14 + 16 * a + 2)))))) (14 + 16 * a + 2) ((z (14 + 16 * a + 2)) - (minP ((valP (z (25 + 16 * a + sk)) (nI (1 + m_))) / 2) (z (14 + 16 * a + 2))))) 6 ((z 6) + (minP ((valP (z (25 + 16 * a + sk)) (nI (1 + m_))) / 2) (z (14 + 16 * a + 2))))) (14 + 16 * a + 4) 1)) q_ ((z (14 + 16 * a + 5)) + (nI (1 + m_))))))) (lw_wm (show 16 * a + 5 < 64 by omega) (show 14 + (16 * a + 5) = 14 + 16 * a + 5 by omega))))) (fun H locs hP hD hS => ?_)
          refine lv_aload hx hb dL_members_324 (lv_at hl 4 rfl) ?_
          refine lv_bipush (v := 16) hx hb dL_members_326 (by decide) ?_
          refine lv_iload hx hb dL_members_328 (lv_at hl 6 rfl) ?_
          refine lv_imul hx hb dL_members_330 ?_
          refine z_top (v2 := .int (nI (16 * a))) (congrArg Value.int (pk_mul 16 a)) ?_
          refine lv_bipush (v := 7) hx hb dL_members_331 (by decide) ?_
          refine lv_iadd hx hb dL_members_333  ?_
          refine z_top (v2 := .int (nI (16 * a + 7))) (congrArg Value.int (nI_add (16 * a) 7)) ?_
          refine lv_dup2_11 hx hb dL_members_334 rfl rfl ?_
          refine va_iald hx hb hK hP (139 + (1)) 0 ((xw_r).trans (lw_1)) rfl (vp_in_nI (show 16 * a + 7 < 64 by omega) (by omega)) dL_members_335 ?_
          refine z_top (v2 := .int (z (14 + 16 * a + 7))) (congrArg Value.int ((lm_at rfl (show 16 * a + 7 < 64 by omega) (show 14 + (16 * a + 7) = 14 + 16 * a + 7 by omega)).trans ((upd_ne (by omega)).trans ((upd_ne (by omega)).trans ((upd_ne (by omega)).trans ((upd_ne (by omega)).trans ((upd_ne (by omega)).trans (rfl)))))))) ?_
          refine lv_iload hx hb dL_members_336 (lv_at hl 10 rfl) ?_
          refine lv_iadd hx hb dL_members_338  ?_
          refine z_iast (ws2 := xw0 cI cC cM cB ad z t sg sz r x h ah (nI nx) (nI kp) zh (lwS cI na ma (upd (upd (upd (upd (upd (upd z (14 + 16 * a + 1) ((z (14 + 16 * a + 1)) + ((valP (z (25 + 16 * a + sk)) (nI (1 + m_))) - (minP ((valP (z (25 + 16 * a + sk)) (nI (1 + m_))) / 2) (z (14 + 16 * a + 2)))))) (14 + 16 * a + 2) ((z (14 + 16 * a + 2)) - (minP ((valP (z (25 + 16 * a + sk)) (nI (1 + m_))) / 2) (z (14 + 16 * a + 2))))) 6 ((z 6) + (minP ((valP (z (25 + 16 * a + sk)) (nI (1 + m_))) / 2) (z (14 + 16 * a + 2))))) (14 + 16 * a + 4) 1) (14 + 16 * a + 5) ((z (14 + 16 * a + 5)) + (nI (1 + m_)))) (14 + 16 * a + 7) ((z (14 + 16 * a + 7)) + (valP (z (25 + 16 * a + sk)) (nI (1 + m_))))) kp wr)) hx hb hK hP hD hS (139 + (1)) 0 ((xw_r).trans (lw_1)) rfl (vp_in_nI (show 16 * a + 7 < 64 by omega) (by omega)) dL_members_339 ((xw_rs).trans (congrArg (fun w_ => xw0 cI cC cM cB ad z t sg sz r x h ah (nI nx) (nI kp) zh w_) (z_ixw rfl (show 16 * a + 7 < 2 ^ 31 by omega) (fun q_ => (lwS cI na ma (upd (upd (upd (upd (upd z (14 + 16 * a + 1) ((z (14 + 16 * a + 1)) + ((valP (z (25 + 16 * a + sk)) (nI (1 + m_))) - (minP ((valP (z (25 + 16 * a + sk)) (nI (1 + m_))) / 2) (z (14 + 16 * a + 2)))))) (14 + 16 * a + 2) ((z (14 + 16 * a + 2)) - (minP ((valP (z (25 + 16 * a + sk)) (nI (1 + m_))) / 2) (z (14 + 16 * a + 2))))) 6 ((z 6) + (minP ((valP (z (25 + 16 * a + sk)) (nI (1 + m_))) / 2) (z (14 + 16 * a + 2))))) (14 + 16 * a + 4) 1) (14 + 16 * a + 5) ((z (14 + 16 * a + 5)) + (nI (1 + m_)))) kp wr).set 1 (ma, .inl (cI, 64, .inl (upd (mfn (upd (upd (upd (upd (upd z (14 + 16 * a + 1) ((z (14 + 16 * a + 1)) + ((valP (z (25 + 16 * a + sk)) (nI (1 + m_))) - (minP ((valP (z (25 + 16 * a + sk)) (nI (1 + m_))) / 2) (z (14 + 16 * a + 2)))))) (14 + 16 * a + 2) ((z (14 + 16 * a + 2)) - (minP ((valP (z (25 + 16 * a + sk)) (nI (1 + m_))) / 2) (z (14 + 16 * a + 2))))) 6 ((z 6) + (minP ((valP (z (25 + 16 * a + sk)) (nI (1 + m_))) / 2) (z (14 + 16 * a + 2))))) (14 + 16 * a + 4) 1) (14 + 16 * a + 5) ((z (14 + 16 * a + 5)) + (nI (1 + m_))))) q_ ((z (14 + 16 * a + 7)) + (valP (z (25 + 16 * a + sk)) (nI (1 + m_)))))))) (lw_wm (show 16 * a + 7 < 64 by omega) (show 14 + (16 * a + 7) = 14 + 16 * a + 7 by omega))))) (fun H locs hP hD hS => ?_)
          refine lv_aload hx hb dL_members_340 (lv_at hl 4 rfl) ?_
          refine lv_bipush (v := 16) hx hb dL_members_342 (by decide) ?_
          refine lv_iload hx hb dL_members_344 (lv_at hl 6 rfl) ?_
          refine lv_imul hx hb dL_members_346 ?_
          refine z_top (v2 := .int (nI (16 * a))) (congrArg Value.int (pk_mul 16 a)) ?_
          refine lv_bipush (v := 11) hx hb dL_members_347 (by decide) ?_
          refine lv_iadd hx hb dL_members_349  ?_
          refine z_top (v2 := .int (nI (16 * a + 11))) (congrArg Value.int (nI_add (16 * a) 11)) ?_
          refine lv_iload hx hb dL_members_350 (lv_at hl 8 rfl) ?_
          refine lv_iadd hx hb dL_members_352  ?_
          refine z_top (v2 := .int (nI (16 * a + 11 + sk))) (congrArg Value.int (nI_add (16 * a + 11) sk)) ?_
          refine lv_dup2_11 hx hb dL_members_353 rfl rfl ?_
          refine va_iald hx hb hK hP (139 + (1)) 0 ((xw_r).trans (lw_1)) rfl (vp_in_nI (show 16 * a + 11 + sk < 64 by omega) (by omega)) dL_members_354 ?_
          refine z_top (v2 := .int (z (25 + 16 * a + sk))) (congrArg Value.int ((lm_at rfl (show 16 * a + 11 + sk < 64 by omega) (show 14 + (16 * a + 11 + sk) = 25 + 16 * a + sk by omega)).trans ((upd_ne (by omega)).trans ((upd_ne (by omega)).trans ((upd_ne (by omega)).trans ((upd_ne (by omega)).trans ((upd_ne (by omega)).trans ((upd_ne (by omega)).trans (rfl))))))))) ?_
          refine lv_iload hx hb dL_members_355 (lv_at hl 9 rfl) ?_
          refine lv_iadd hx hb dL_members_357  ?_
          refine z_iast (ws2 := xw0 cI cC cM cB ad z t sg sz r x h ah (nI nx) (nI kp) zh (lwS cI na ma (upd (upd (upd (upd (upd (upd (upd z (14 + 16 * a + 1) ((z (14 + 16 * a + 1)) + ((valP (z (25 + 16 * a + sk)) (nI (1 + m_))) - (minP ((valP (z (25 + 16 * a + sk)) (nI (1 + m_))) / 2) (z (14 + 16 * a + 2)))))) (14 + 16 * a + 2) ((z (14 + 16 * a + 2)) - (minP ((valP (z (25 + 16 * a + sk)) (nI (1 + m_))) / 2) (z (14 + 16 * a + 2))))) 6 ((z 6) + (minP ((valP (z (25 + 16 * a + sk)) (nI (1 + m_))) / 2) (z (14 + 16 * a + 2))))) (14 + 16 * a + 4) 1) (14 + 16 * a + 5) ((z (14 + 16 * a + 5)) + (nI (1 + m_)))) (14 + 16 * a + 7) ((z (14 + 16 * a + 7)) + (valP (z (25 + 16 * a + sk)) (nI (1 + m_))))) (25 + 16 * a + sk) ((z (25 + 16 * a + sk)) + (nI (1 + m_)))) kp wr)) hx hb hK hP hD hS (139 + (1)) 0 ((xw_r).trans (lw_1)) rfl (vp_in_nI (show 16 * a + 11 + sk < 64 by omega) (by omega)) dL_members_358 ((xw_rs).trans (congrArg (fun w_ => xw0 cI cC cM cB ad z t sg sz r x h ah (nI nx) (nI kp) zh w_) (z_ixw rfl (show 16 * a + 11 + sk < 2 ^ 31 by omega) (fun q_ => (lwS cI na ma (upd (upd (upd (upd (upd (upd z (14 + 16 * a + 1) ((z (14 + 16 * a + 1)) + ((valP (z (25 + 16 * a + sk)) (nI (1 + m_))) - (minP ((valP (z (25 + 16 * a + sk)) (nI (1 + m_))) / 2) (z (14 + 16 * a + 2)))))) (14 + 16 * a + 2) ((z (14 + 16 * a + 2)) - (minP ((valP (z (25 + 16 * a + sk)) (nI (1 + m_))) / 2) (z (14 + 16 * a + 2))))) 6 ((z 6) + (minP ((valP (z (25 + 16 * a + sk)) (nI (1 + m_))) / 2) (z (14 + 16 * a + 2))))) (14 + 16 * a + 4) 1) (14 + 16 * a + 5) ((z (14 + 16 * a + 5)) + (nI (1 + m_)))) (14 + 16 * a + 7) ((z (14 + 16 * a + 7)) + (valP (z (25 + 16 * a + sk)) (nI (1 + m_))))) kp wr).set 1 (ma, .inl (cI, 64, .inl (upd (mfn (upd (upd (upd (upd (upd (upd z (14 + 16 * a + 1) ((z (14 + 16 * a + 1)) + ((valP (z (25 + 16 * a + sk)) (nI (1 + m_))) - (minP ((valP (z (25 + 16 * a + sk)) (nI (1 + m_))) / 2) (z (14 + 16 * a + 2)))))) (14 + 16 * a + 2) ((z (14 + 16 * a + 2)) - (minP ((valP (z (25 + 16 * a + sk)) (nI (1 + m_))) / 2) (z (14 + 16 * a + 2))))) 6 ((z 6) + (minP ((valP (z (25 + 16 * a + sk)) (nI (1 + m_))) / 2) (z (14 + 16 * a + 2))))) (14 + 16 * a + 4) 1) (14 + 16 * a + 5) ((z (14 + 16 * a + 5)) + (nI (1 + m_)))) (14 + 16 * a + 7) ((z (14 + 16 * a + 7)) + (valP (z (25 + 16 * a + sk)) (nI (1 + m_)))))) q_ ((z (25 + 16 * a + sk)) + (nI (1 + m_))))))) (lw_wm (show 16 * a + 11 + sk < 64 by omega) (show 14 + (16 * a + 11 + sk) = 25 + 16 * a + sk by omega))))) (fun H locs hP hD hS => ?_)
          refine lv_aload hx hb dL_members_359 (lv_at hl 4 rfl) ?_
          refine lv_bipush (v := 16) hx hb dL_members_361 (by decide) ?_
          refine lv_iload hx hb dL_members_363 (lv_at hl 6 rfl) ?_
          refine lv_imul hx hb dL_members_365 ?_
          refine z_top (v2 := .int (nI (16 * a))) (congrArg Value.int (pk_mul 16 a)) ?_
          refine lv_bipush (v := 11) hx hb dL_members_366 (by decide) ?_
          refine lv_iadd hx hb dL_members_368  ?_
          refine z_top (v2 := .int (nI (16 * a + 11))) (congrArg Value.int (nI_add (16 * a) 11)) ?_
          refine lv_iload hx hb dL_members_369 (lv_at hl 8 rfl) ?_
          refine lv_iadd hx hb dL_members_371  ?_
          refine z_top (v2 := .int (nI (16 * a + 11 + sk))) (congrArg Value.int (nI_add (16 * a + 11) sk)) ?_
          refine va_iald hx hb hK hP (139 + (1)) 0 ((xw_r).trans (lw_1)) rfl (vp_in_nI (show 16 * a + 11 + sk < 64 by omega) (by omega)) dL_members_372 ?_
          refine z_top (v2 := .int ((z (25 + 16 * a + sk)) + (nI (1 + m_)))) (congrArg Value.int ((lm_at rfl (show 16 * a + 11 + sk < 64 by omega) (show 14 + (16 * a + 11 + sk) = 25 + 16 * a + sk by omega)).trans (upd_eq rfl))) ?_
          refine lv_sipush (v := 9999) hx hb dL_members_373 (by decide) ?_
          have J396_1 : ∀ (H : Heap) (locs : List Loc), va_P D vwCl (xw0 cI cC cM cB ad z t sg sz r x h ah (nI nx) (nI kp) zh (lwS cI na ma (upd (upd (upd (upd (upd (upd (upd z (14 + 16 * a + 1) ((z (14 + 16 * a + 1)) + ((valP (z (25 + 16 * a + sk)) (nI (1 + m_))) - (minP ((valP (z (25 + 16 * a + sk)) (nI (1 + m_))) / 2) (z (14 + 16 * a + 2)))))) (14 + 16 * a + 2) ((z (14 + 16 * a + 2)) - (minP ((valP (z (25 + 16 * a + sk)) (nI (1 + m_))) / 2) (z (14 + 16 * a + 2))))) 6 ((z 6) + (minP ((valP (z (25 + 16 * a + sk)) (nI (1 + m_))) / 2) (z (14 + 16 * a + 2))))) (14 + 16 * a + 4) 1) (14 + 16 * a + 5) ((z (14 + 16 * a + 5)) + (nI (1 + m_)))) (14 + 16 * a + 7) ((z (14 + 16 * a + 7)) + (valP (z (25 + 16 * a + sk)) (nI (1 + m_))))) (25 + 16 * a + sk) (minP (z (25 + 16 * a + sk) + nI (1 + m_)) 9999)) kp wr)) H → va_D A (xw0 cI cC cM cB ad z t sg sz r x h ah (nI nx) (nI kp) zh (lwS cI na ma (upd (upd (upd (upd (upd (upd (upd z (14 + 16 * a + 1) ((z (14 + 16 * a + 1)) + ((valP (z (25 + 16 * a + sk)) (nI (1 + m_))) - (minP ((valP (z (25 + 16 * a + sk)) (nI (1 + m_))) / 2) (z (14 + 16 * a + 2)))))) (14 + 16 * a + 2) ((z (14 + 16 * a + 2)) - (minP ((valP (z (25 + 16 * a + sk)) (nI (1 + m_))) / 2) (z (14 + 16 * a + 2))))) 6 ((z 6) + (minP ((valP (z (25 + 16 * a + sk)) (nI (1 + m_))) / 2) (z (14 + 16 * a + 2))))) (14 + 16 * a + 4) 1) (14 + 16 * a + 5) ((z (14 + 16 * a + 5)) + (nI (1 + m_)))) (14 + 16 * a + 7) ((z (14 + 16 * a + 7)) + (valP (z (25 + 16 * a + sk)) (nI (1 + m_))))) (25 + 16 * a + sk) (minP (z (25 + 16 * a + sk) + nI (1 + m_)) 9999)) kp wr)) → va_S A s.heap H locs → ∀ ls : Array Slot, lv_has ls 12 [(0, .ref x), (1, .int xv), (2, .int yv), (3, .ref na), (4, .ref ma), (5, .int (atP xv 12)), (6, .int (nI a)), (7, .int (nI b)), (8, .int (nI sk)), (9, .int (nI (1 + m_))), (10, .int (valP (z (25 + 16 * a + sk)) (nI (1 + m_)))), (11, .int (minP ((valP (z (25 + 16 * a + sk)) (nI (1 + m_))) / 2) (z (14 + 16 * a + 2))))] → W p l e ({ frames := 7, cells := 1, slots := 6, locals := 136 } : Room) s m ([.ref x, .int xv, .int yv, .ref na, .ref ma] : List Value).toArray below meth c H locs 0 0 (MQ below (zRQ D (zT cI cC cM cB cJ) (pG cI cC cM cB ad t sg sz r x h ah na ma wr (k + 1)) (some (.int 1)) A) ([.ref x, .int xv, .int yv, .ref na, .ref ma] : List Value).toArray s 1 6 A) (F0 m 396 ls []) := by
            intro H locs hP hD hS ls hl
            refine lv_aload hx hb dL_members_396 (lv_at hl 4 rfl) ?_
            refine lv_bipush (v := 16) hx hb dL_members_398 (by decide) ?_
            refine lv_iload hx hb dL_members_400 (lv_at hl 7 rfl) ?_
            refine lv_imul hx hb dL_members_402 ?_
            refine z_top (v2 := .int (nI (16 * b))) (congrArg Value.int (pk_mul 16 b)) ?_
            refine lv_iconst (v := 1) hx hb dL_members_403 (by decide) ?_
            refine lv_iadd hx hb dL_members_404  ?_
            refine z_top (v2 := .int (nI (16 * b + 1))) (congrArg Value.int (nI_add (16 * b) 1)) ?_
            refine lv_dup2_11 hx hb dL_members_405 rfl rfl ?_
            refine va_iald hx hb hK hP (139 + (1)) 0 ((xw_r).trans (lw_1)) rfl (vp_in_nI (show 16 * b + 1 < 64 by omega) (by omega)) dL_members_406 ?_
            refine z_top (v2 := .int (z (14 + 16 * b + 1))) (congrArg Value.int ((lm_at rfl (show 16 * b + 1 < 64 by omega) (show 14 + (16 * b + 1) = 14 + 16 * b + 1 by omega)).trans ((upd_ne (by omega)).trans ((upd_ne (by omega)).trans ((upd_ne (by omega)).trans ((upd_ne (by omega)).trans ((upd_ne (by omega)).trans ((upd_ne (by omega)).trans ((upd_ne (by omega)).trans (rfl)))))))))) ?_
            refine lv_iload hx hb dL_members_407 (lv_at hl 10 rfl) ?_
            refine lv_isub hx hb dL_members_409  ?_
            refine z_iast (ws2 := xw0 cI cC cM cB ad z t sg sz r x h ah (nI nx) (nI kp) zh (lwS cI na ma (upd (upd (upd (upd (upd (upd (upd (upd z (14 + 16 * a + 1) ((z (14 + 16 * a + 1)) + ((valP (z (25 + 16 * a + sk)) (nI (1 + m_))) - (minP ((valP (z (25 + 16 * a + sk)) (nI (1 + m_))) / 2) (z (14 + 16 * a + 2)))))) (14 + 16 * a + 2) ((z (14 + 16 * a + 2)) - (minP ((valP (z (25 + 16 * a + sk)) (nI (1 + m_))) / 2) (z (14 + 16 * a + 2))))) 6 ((z 6) + (minP ((valP (z (25 + 16 * a + sk)) (nI (1 + m_))) / 2) (z (14 + 16 * a + 2))))) (14 + 16 * a + 4) 1) (14 + 16 * a + 5) ((z (14 + 16 * a + 5)) + (nI (1 + m_)))) (14 + 16 * a + 7) ((z (14 + 16 * a + 7)) + (valP (z (25 + 16 * a + sk)) (nI (1 + m_))))) (25 + 16 * a + sk) (minP (z (25 + 16 * a + sk) + nI (1 + m_)) 9999)) (14 + 16 * b + 1) ((z (14 + 16 * b + 1)) - (valP (z (25 + 16 * a + sk)) (nI (1 + m_))))) kp wr)) hx hb hK hP hD hS (139 + (1)) 0 ((xw_r).trans (lw_1)) rfl (vp_in_nI (show 16 * b + 1 < 64 by omega) (by omega)) dL_members_410 ((xw_rs).trans (congrArg (fun w_ => xw0 cI cC cM cB ad z t sg sz r x h ah (nI nx) (nI kp) zh w_) (z_ixw rfl (show 16 * b + 1 < 2 ^ 31 by omega) (fun q_ => (lwS cI na ma (upd (upd (upd (upd (upd (upd (upd z (14 + 16 * a + 1) ((z (14 + 16 * a + 1)) + ((valP (z (25 + 16 * a + sk)) (nI (1 + m_))) - (minP ((valP (z (25 + 16 * a + sk)) (nI (1 + m_))) / 2) (z (14 + 16 * a + 2)))))) (14 + 16 * a + 2) ((z (14 + 16 * a + 2)) - (minP ((valP (z (25 + 16 * a + sk)) (nI (1 + m_))) / 2) (z (14 + 16 * a + 2))))) 6 ((z 6) + (minP ((valP (z (25 + 16 * a + sk)) (nI (1 + m_))) / 2) (z (14 + 16 * a + 2))))) (14 + 16 * a + 4) 1) (14 + 16 * a + 5) ((z (14 + 16 * a + 5)) + (nI (1 + m_)))) (14 + 16 * a + 7) ((z (14 + 16 * a + 7)) + (valP (z (25 + 16 * a + sk)) (nI (1 + m_))))) (25 + 16 * a + sk) (minP (z (25 + 16 * a + sk) + nI (1 + m_)) 9999)) kp wr).set 1 (ma, .inl (cI, 64, .inl (upd (mfn (upd (upd (upd (upd (upd (upd (upd z (14 + 16 * a + 1) ((z (14 + 16 * a + 1)) + ((valP (z (25 + 16 * a + sk)) (nI (1 + m_))) - (minP ((valP (z (25 + 16 * a + sk)) (nI (1 + m_))) / 2) (z (14 + 16 * a + 2)))))) (14 + 16 * a + 2) ((z (14 + 16 * a + 2)) - (minP ((valP (z (25 + 16 * a + sk)) (nI (1 + m_))) / 2) (z (14 + 16 * a + 2))))) 6 ((z 6) + (minP ((valP (z (25 + 16 * a + sk)) (nI (1 + m_))) / 2) (z (14 + 16 * a + 2))))) (14 + 16 * a + 4) 1) (14 + 16 * a + 5) ((z (14 + 16 * a + 5)) + (nI (1 + m_)))) (14 + 16 * a + 7) ((z (14 + 16 * a + 7)) + (valP (z (25 + 16 * a + sk)) (nI (1 + m_))))) (25 + 16 * a + sk) (minP (z (25 + 16 * a + sk) + nI (1 + m_)) 9999))) q_ ((z (14 + 16 * b + 1)) - (valP (z (25 + 16 * a + sk)) (nI (1 + m_)))))))) (lw_wm (show 16 * b + 1 < 64 by omega) (show 14 + (16 * b + 1) = 14 + 16 * b + 1 by omega))))) (fun H locs hP hD hS => ?_)
            refine lv_aload hx hb dL_members_411 (lv_at hl 4 rfl) ?_
            refine lv_bipush (v := 16) hx hb dL_members_413 (by decide) ?_
            refine lv_iload hx hb dL_members_415 (lv_at hl 7 rfl) ?_
            refine lv_imul hx hb dL_members_417 ?_
            refine z_top (v2 := .int (nI (16 * b))) (congrArg Value.int (pk_mul 16 b)) ?_
            refine lv_iconst (v := 4) hx hb dL_members_418 (by decide) ?_
            refine lv_iadd hx hb dL_members_419  ?_
            refine z_top (v2 := .int (nI (16 * b + 4))) (congrArg Value.int (nI_add (16 * b) 4)) ?_
            refine lv_iconst (v := 1) hx hb dL_members_420 (by decide) ?_
            refine z_iast (ws2 := xw0 cI cC cM cB ad z t sg sz r x h ah (nI nx) (nI kp) zh (lwS cI na ma (upd (upd (upd (upd (upd (upd (upd (upd (upd z (14 + 16 * a + 1) ((z (14 + 16 * a + 1)) + ((valP (z (25 + 16 * a + sk)) (nI (1 + m_))) - (minP ((valP (z (25 + 16 * a + sk)) (nI (1 + m_))) / 2) (z (14 + 16 * a + 2)))))) (14 + 16 * a + 2) ((z (14 + 16 * a + 2)) - (minP ((valP (z (25 + 16 * a + sk)) (nI (1 + m_))) / 2) (z (14 + 16 * a + 2))))) 6 ((z 6) + (minP ((valP (z (25 + 16 * a + sk)) (nI (1 + m_))) / 2) (z (14 + 16 * a + 2))))) (14 + 16 * a + 4) 1) (14 + 16 * a + 5) ((z (14 + 16 * a + 5)) + (nI (1 + m_)))) (14 + 16 * a + 7) ((z (14 + 16 * a + 7)) + (valP (z (25 + 16 * a + sk)) (nI (1 + m_))))) (25 + 16 * a + sk) (minP (z (25 + 16 * a + sk) + nI (1 + m_)) 9999)) (14 + 16 * b + 1) ((z (14 + 16 * b + 1)) - (valP (z (25 + 16 * a + sk)) (nI (1 + m_))))) (14 + 16 * b + 4) 1) kp wr)) hx hb hK hP hD hS (139 + (1)) 0 ((xw_r).trans (lw_1)) rfl (vp_in_nI (show 16 * b + 4 < 64 by omega) (by omega)) dL_members_421 ((xw_rs).trans (congrArg (fun w_ => xw0 cI cC cM cB ad z t sg sz r x h ah (nI nx) (nI kp) zh w_) (z_ixw rfl (show 16 * b + 4 < 2 ^ 31 by omega) (fun q_ => (lwS cI na ma (upd (upd (upd (upd (upd (upd (upd (upd z (14 + 16 * a + 1) ((z (14 + 16 * a + 1)) + ((valP (z (25 + 16 * a + sk)) (nI (1 + m_))) - (minP ((valP (z (25 + 16 * a + sk)) (nI (1 + m_))) / 2) (z (14 + 16 * a + 2)))))) (14 + 16 * a + 2) ((z (14 + 16 * a + 2)) - (minP ((valP (z (25 + 16 * a + sk)) (nI (1 + m_))) / 2) (z (14 + 16 * a + 2))))) 6 ((z 6) + (minP ((valP (z (25 + 16 * a + sk)) (nI (1 + m_))) / 2) (z (14 + 16 * a + 2))))) (14 + 16 * a + 4) 1) (14 + 16 * a + 5) ((z (14 + 16 * a + 5)) + (nI (1 + m_)))) (14 + 16 * a + 7) ((z (14 + 16 * a + 7)) + (valP (z (25 + 16 * a + sk)) (nI (1 + m_))))) (25 + 16 * a + sk) (minP (z (25 + 16 * a + sk) + nI (1 + m_)) 9999)) (14 + 16 * b + 1) ((z (14 + 16 * b + 1)) - (valP (z (25 + 16 * a + sk)) (nI (1 + m_))))) kp wr).set 1 (ma, .inl (cI, 64, .inl (upd (mfn (upd (upd (upd (upd (upd (upd (upd (upd z (14 + 16 * a + 1) ((z (14 + 16 * a + 1)) + ((valP (z (25 + 16 * a + sk)) (nI (1 + m_))) - (minP ((valP (z (25 + 16 * a + sk)) (nI (1 + m_))) / 2) (z (14 + 16 * a + 2)))))) (14 + 16 * a + 2) ((z (14 + 16 * a + 2)) - (minP ((valP (z (25 + 16 * a + sk)) (nI (1 + m_))) / 2) (z (14 + 16 * a + 2))))) 6 ((z 6) + (minP ((valP (z (25 + 16 * a + sk)) (nI (1 + m_))) / 2) (z (14 + 16 * a + 2))))) (14 + 16 * a + 4) 1) (14 + 16 * a + 5) ((z (14 + 16 * a + 5)) + (nI (1 + m_)))) (14 + 16 * a + 7) ((z (14 + 16 * a + 7)) + (valP (z (25 + 16 * a + sk)) (nI (1 + m_))))) (25 + 16 * a + sk) (minP (z (25 + 16 * a + sk) + nI (1 + m_)) 9999)) (14 + 16 * b + 1) ((z (14 + 16 * b + 1)) - (valP (z (25 + 16 * a + sk)) (nI (1 + m_)))))) q_ 1)))) (lw_wm (show 16 * b + 4 < 64 by omega) (show 14 + (16 * b + 4) = 14 + 16 * b + 4 by omega))))) (fun H locs hP hD hS => ?_)
            refine lv_aload hx hb dL_members_422 (lv_at hl 4 rfl) ?_
            refine lv_bipush (v := 16) hx hb dL_members_424 (by decide) ?_
            refine lv_iload hx hb dL_members_426 (lv_at hl 7 rfl) ?_
            refine lv_imul hx hb dL_members_428 ?_
            refine z_top (v2 := .int (nI (16 * b))) (congrArg Value.int (pk_mul 16 b)) ?_
            refine lv_bipush (v := 6) hx hb dL_members_429 (by decide) ?_
            refine lv_iadd hx hb dL_members_431  ?_
            refine z_top (v2 := .int (nI (16 * b + 6))) (congrArg Value.int (nI_add (16 * b) 6)) ?_
            refine lv_dup2_11 hx hb dL_members_432 rfl rfl ?_
            refine va_iald hx hb hK hP (139 + (1)) 0 ((xw_r).trans (lw_1)) rfl (vp_in_nI (show 16 * b + 6 < 64 by omega) (by omega)) dL_members_433 ?_
            refine z_top (v2 := .int (z (14 + 16 * b + 6))) (congrArg Value.int ((lm_at rfl (show 16 * b + 6 < 64 by omega) (show 14 + (16 * b + 6) = 14 + 16 * b + 6 by omega)).trans ((upd_ne (by omega)).trans ((upd_ne (by omega)).trans ((upd_ne (by omega)).trans ((upd_ne (by omega)).trans ((upd_ne (by omega)).trans ((upd_ne (by omega)).trans ((upd_ne (by omega)).trans ((upd_ne (by omega)).trans ((upd_ne (by omega)).trans (rfl)))))))))))) ?_
            refine lv_iload hx hb dL_members_434 (lv_at hl 9 rfl) ?_
            refine lv_iadd hx hb dL_members_436  ?_
            refine z_iast (ws2 := xw0 cI cC cM cB ad z t sg sz r x h ah (nI nx) (nI kp) zh (lwS cI na ma (upd (upd (upd (upd (upd (upd (upd (upd (upd (upd z (14 + 16 * a + 1) ((z (14 + 16 * a + 1)) + ((valP (z (25 + 16 * a + sk)) (nI (1 + m_))) - (minP ((valP (z (25 + 16 * a + sk)) (nI (1 + m_))) / 2) (z (14 + 16 * a + 2)))))) (14 + 16 * a + 2) ((z (14 + 16 * a + 2)) - (minP ((valP (z (25 + 16 * a + sk)) (nI (1 + m_))) / 2) (z (14 + 16 * a + 2))))) 6 ((z 6) + (minP ((valP (z (25 + 16 * a + sk)) (nI (1 + m_))) / 2) (z (14 + 16 * a + 2))))) (14 + 16 * a + 4) 1) (14 + 16 * a + 5) ((z (14 + 16 * a + 5)) + (nI (1 + m_)))) (14 + 16 * a + 7) ((z (14 + 16 * a + 7)) + (valP (z (25 + 16 * a + sk)) (nI (1 + m_))))) (25 + 16 * a + sk) (minP (z (25 + 16 * a + sk) + nI (1 + m_)) 9999)) (14 + 16 * b + 1) ((z (14 + 16 * b + 1)) - (valP (z (25 + 16 * a + sk)) (nI (1 + m_))))) (14 + 16 * b + 4) 1) (14 + 16 * b + 6) ((z (14 + 16 * b + 6)) + (nI (1 + m_)))) kp wr)) hx hb hK hP hD hS (139 + (1)) 0 ((xw_r).trans (lw_1)) rfl (vp_in_nI (show 16 * b + 6 < 64 by omega) (by omega)) dL_members_437 ((xw_rs).trans (congrArg (fun w_ => xw0 cI cC cM cB ad z t sg sz r x h ah (nI nx) (nI kp) zh w_) (z_ixw rfl (show 16 * b + 6 < 2 ^ 31 by omega) (fun q_ => (lwS cI na ma (upd (upd (upd (upd (upd (upd (upd (upd (upd z (14 + 16 * a + 1) ((z (14 + 16 * a + 1)) + ((valP (z (25 + 16 * a + sk)) (nI (1 + m_))) - (minP ((valP (z (25 + 16 * a + sk)) (nI (1 + m_))) / 2) (z (14 + 16 * a + 2)))))) (14 + 16 * a + 2) ((z (14 + 16 * a + 2)) - (minP ((valP (z (25 + 16 * a + sk)) (nI (1 + m_))) / 2) (z (14 + 16 * a + 2))))) 6 ((z 6) + (minP ((valP (z (25 + 16 * a + sk)) (nI (1 + m_))) / 2) (z (14 + 16 * a + 2))))) (14 + 16 * a + 4) 1) (14 + 16 * a + 5) ((z (14 + 16 * a + 5)) + (nI (1 + m_)))) (14 + 16 * a + 7) ((z (14 + 16 * a + 7)) + (valP (z (25 + 16 * a + sk)) (nI (1 + m_))))) (25 + 16 * a + sk) (minP (z (25 + 16 * a + sk) + nI (1 + m_)) 9999)) (14 + 16 * b + 1) ((z (14 + 16 * b + 1)) - (valP (z (25 + 16 * a + sk)) (nI (1 + m_))))) (14 + 16 * b + 4) 1) kp wr).set 1 (ma, .inl (cI, 64, .inl (upd (mfn (upd (upd (upd (upd (upd (upd (upd (upd (upd z (14 + 16 * a + 1) ((z (14 + 16 * a + 1)) + ((valP (z (25 + 16 * a + sk)) (nI (1 + m_))) - (minP ((valP (z (25 + 16 * a + sk)) (nI (1 + m_))) / 2) (z (14 + 16 * a + 2)))))) (14 + 16 * a + 2) ((z (14 + 16 * a + 2)) - (minP ((valP (z (25 + 16 * a + sk)) (nI (1 + m_))) / 2) (z (14 + 16 * a + 2))))) 6 ((z 6) + (minP ((valP (z (25 + 16 * a + sk)) (nI (1 + m_))) / 2) (z (14 + 16 * a + 2))))) (14 + 16 * a + 4) 1) (14 + 16 * a + 5) ((z (14 + 16 * a + 5)) + (nI (1 + m_)))) (14 + 16 * a + 7) ((z (14 + 16 * a + 7)) + (valP (z (25 + 16 * a + sk)) (nI (1 + m_))))) (25 + 16 * a + sk) (minP (z (25 + 16 * a + sk) + nI (1 + m_)) 9999)) (14 + 16 * b + 1) ((z (14 + 16 * b + 1)) - (valP (z (25 + 16 * a + sk)) (nI (1 + m_))))) (14 + 16 * b + 4) 1)) q_ ((z (14 + 16 * b + 6)) + (nI (1 + m_))))))) (lw_wm (show 16 * b + 6 < 64 by omega) (show 14 + (16 * b + 6) = 14 + 16 * b + 6 by omega))))) (fun H locs hP hD hS => ?_)
            refine lv_aload hx hb dL_members_438 (lv_at hl 4 rfl) ?_
            refine lv_bipush (v := 16) hx hb dL_members_440 (by decide) ?_
            refine lv_iload hx hb dL_members_442 (lv_at hl 7 rfl) ?_
            refine lv_imul hx hb dL_members_444 ?_
            refine z_top (v2 := .int (nI (16 * b))) (congrArg Value.int (pk_mul 16 b)) ?_
            refine lv_bipush (v := 8) hx hb dL_members_445 (by decide) ?_
            refine lv_iadd hx hb dL_members_447  ?_
            refine z_top (v2 := .int (nI (16 * b + 8))) (congrArg Value.int (nI_add (16 * b) 8)) ?_
            refine lv_dup2_11 hx hb dL_members_448 rfl rfl ?_
            refine va_iald hx hb hK hP (139 + (1)) 0 ((xw_r).trans (lw_1)) rfl (vp_in_nI (show 16 * b + 8 < 64 by omega) (by omega)) dL_members_449 ?_
            refine z_top (v2 := .int (z (14 + 16 * b + 8))) (congrArg Value.int ((lm_at rfl (show 16 * b + 8 < 64 by omega) (show 14 + (16 * b + 8) = 14 + 16 * b + 8 by omega)).trans ((upd_ne (by omega)).trans ((upd_ne (by omega)).trans ((upd_ne (by omega)).trans ((upd_ne (by omega)).trans ((upd_ne (by omega)).trans ((upd_ne (by omega)).trans ((upd_ne (by omega)).trans ((upd_ne (by omega)).trans ((upd_ne (by omega)).trans ((upd_ne (by omega)).trans (rfl))))))))))))) ?_
            refine lv_iload hx hb dL_members_450 (lv_at hl 10 rfl) ?_
            refine lv_iadd hx hb dL_members_452  ?_
            refine z_iast (ws2 := xw0 cI cC cM cB ad z t sg sz r x h ah (nI nx) (nI kp) zh (lwS cI na ma (upd (upd (upd (upd (upd (upd (upd (upd (upd (upd (upd z (14 + 16 * a + 1) ((z (14 + 16 * a + 1)) + ((valP (z (25 + 16 * a + sk)) (nI (1 + m_))) - (minP ((valP (z (25 + 16 * a + sk)) (nI (1 + m_))) / 2) (z (14 + 16 * a + 2)))))) (14 + 16 * a + 2) ((z (14 + 16 * a + 2)) - (minP ((valP (z (25 + 16 * a + sk)) (nI (1 + m_))) / 2) (z (14 + 16 * a + 2))))) 6 ((z 6) + (minP ((valP (z (25 + 16 * a + sk)) (nI (1 + m_))) / 2) (z (14 + 16 * a + 2))))) (14 + 16 * a + 4) 1) (14 + 16 * a + 5) ((z (14 + 16 * a + 5)) + (nI (1 + m_)))) (14 + 16 * a + 7) ((z (14 + 16 * a + 7)) + (valP (z (25 + 16 * a + sk)) (nI (1 + m_))))) (25 + 16 * a + sk) (minP (z (25 + 16 * a + sk) + nI (1 + m_)) 9999)) (14 + 16 * b + 1) ((z (14 + 16 * b + 1)) - (valP (z (25 + 16 * a + sk)) (nI (1 + m_))))) (14 + 16 * b + 4) 1) (14 + 16 * b + 6) ((z (14 + 16 * b + 6)) + (nI (1 + m_)))) (14 + 16 * b + 8) ((z (14 + 16 * b + 8)) + (valP (z (25 + 16 * a + sk)) (nI (1 + m_))))) kp wr)) hx hb hK hP hD hS (139 + (1)) 0 ((xw_r).trans (lw_1)) rfl (vp_in_nI (show 16 * b + 8 < 64 by omega) (by omega)) dL_members_453 ((xw_rs).trans (congrArg (fun w_ => xw0 cI cC cM cB ad z t sg sz r x h ah (nI nx) (nI kp) zh w_) (z_ixw rfl (show 16 * b + 8 < 2 ^ 31 by omega) (fun q_ => (lwS cI na ma (upd (upd (upd (upd (upd (upd (upd (upd (upd (upd z (14 + 16 * a + 1) ((z (14 + 16 * a + 1)) + ((valP (z (25 + 16 * a + sk)) (nI (1 + m_))) - (minP ((valP (z (25 + 16 * a + sk)) (nI (1 + m_))) / 2) (z (14 + 16 * a + 2)))))) (14 + 16 * a + 2) ((z (14 + 16 * a + 2)) - (minP ((valP (z (25 + 16 * a + sk)) (nI (1 + m_))) / 2) (z (14 + 16 * a + 2))))) 6 ((z 6) + (minP ((valP (z (25 + 16 * a + sk)) (nI (1 + m_))) / 2) (z (14 + 16 * a + 2))))) (14 + 16 * a + 4) 1) (14 + 16 * a + 5) ((z (14 + 16 * a + 5)) + (nI (1 + m_)))) (14 + 16 * a + 7) ((z (14 + 16 * a + 7)) + (valP (z (25 + 16 * a + sk)) (nI (1 + m_))))) (25 + 16 * a + sk) (minP (z (25 + 16 * a + sk) + nI (1 + m_)) 9999)) (14 + 16 * b + 1) ((z (14 + 16 * b + 1)) - (valP (z (25 + 16 * a + sk)) (nI (1 + m_))))) (14 + 16 * b + 4) 1) (14 + 16 * b + 6) ((z (14 + 16 * b + 6)) + (nI (1 + m_)))) kp wr).set 1 (ma, .inl (cI, 64, .inl (upd (mfn (upd (upd (upd (upd (upd (upd (upd (upd (upd (upd z (14 + 16 * a + 1) ((z (14 + 16 * a + 1)) + ((valP (z (25 + 16 * a + sk)) (nI (1 + m_))) - (minP ((valP (z (25 + 16 * a + sk)) (nI (1 + m_))) / 2) (z (14 + 16 * a + 2)))))) (14 + 16 * a + 2) ((z (14 + 16 * a + 2)) - (minP ((valP (z (25 + 16 * a + sk)) (nI (1 + m_))) / 2) (z (14 + 16 * a + 2))))) 6 ((z 6) + (minP ((valP (z (25 + 16 * a + sk)) (nI (1 + m_))) / 2) (z (14 + 16 * a + 2))))) (14 + 16 * a + 4) 1) (14 + 16 * a + 5) ((z (14 + 16 * a + 5)) + (nI (1 + m_)))) (14 + 16 * a + 7) ((z (14 + 16 * a + 7)) + (valP (z (25 + 16 * a + sk)) (nI (1 + m_))))) (25 + 16 * a + sk) (minP (z (25 + 16 * a + sk) + nI (1 + m_)) 9999)) (14 + 16 * b + 1) ((z (14 + 16 * b + 1)) - (valP (z (25 + 16 * a + sk)) (nI (1 + m_))))) (14 + 16 * b + 4) 1) (14 + 16 * b + 6) ((z (14 + 16 * b + 6)) + (nI (1 + m_))))) q_ ((z (14 + 16 * b + 8)) + (valP (z (25 + 16 * a + sk)) (nI (1 + m_)))))))) (lw_wm (show 16 * b + 8 < 64 by omega) (show 14 + (16 * b + 8) = 14 + 16 * b + 8 by omega))))) (fun H locs hP hD hS => ?_)
            refine lv_aload_n hx hb dL_members_454 rfl (lv_at hl 3 rfl) ?_
            refine lv_iconst (v := 4) hx hb dL_members_455 (by decide) ?_
            refine lv_dup2_11 hx hb dL_members_456 rfl rfl ?_
            refine va_iald hx hb hK hP (139 + (0)) 0 ((xw_r).trans (lw_0)) rfl (vp_in_nI (show 4 < 15 by decide) (by omega)) dL_members_457 ?_
            refine z_top (v2 := .int (z 9)) (congrArg Value.int ((nf_4 rfl).trans ((upd_ne (by omega)).trans ((upd_ne (by omega)).trans ((upd_ne (by omega)).trans ((upd_ne (by omega)).trans ((upd_ne (by omega)).trans ((upd_ne (by omega)).trans ((upd_ne (by omega)).trans ((upd_ne (by omega)).trans ((upd_ne (by omega)).trans ((upd_ne (by omega)).trans ((upd_ne (by omega)).trans (rfl)))))))))))))) ?_
            refine lv_iconst (v := 1) hx hb dL_members_458 (by decide) ?_
            refine lv_iadd hx hb dL_members_459  ?_
            refine z_iast (ws2 := xw0 cI cC cM cB ad z t sg sz r x h ah (nI nx) (nI kp) zh (lwS cI na ma (upd (upd (upd (upd (upd (upd (upd (upd (upd (upd (upd (upd z (14 + 16 * a + 1) ((z (14 + 16 * a + 1)) + ((valP (z (25 + 16 * a + sk)) (nI (1 + m_))) - (minP ((valP (z (25 + 16 * a + sk)) (nI (1 + m_))) / 2) (z (14 + 16 * a + 2)))))) (14 + 16 * a + 2) ((z (14 + 16 * a + 2)) - (minP ((valP (z (25 + 16 * a + sk)) (nI (1 + m_))) / 2) (z (14 + 16 * a + 2))))) 6 ((z 6) + (minP ((valP (z (25 + 16 * a + sk)) (nI (1 + m_))) / 2) (z (14 + 16 * a + 2))))) (14 + 16 * a + 4) 1) (14 + 16 * a + 5) ((z (14 + 16 * a + 5)) + (nI (1 + m_)))) (14 + 16 * a + 7) ((z (14 + 16 * a + 7)) + (valP (z (25 + 16 * a + sk)) (nI (1 + m_))))) (25 + 16 * a + sk) (minP (z (25 + 16 * a + sk) + nI (1 + m_)) 9999)) (14 + 16 * b + 1) ((z (14 + 16 * b + 1)) - (valP (z (25 + 16 * a + sk)) (nI (1 + m_))))) (14 + 16 * b + 4) 1) (14 + 16 * b + 6) ((z (14 + 16 * b + 6)) + (nI (1 + m_)))) (14 + 16 * b + 8) ((z (14 + 16 * b + 8)) + (valP (z (25 + 16 * a + sk)) (nI (1 + m_))))) 9 ((z 9) + 1)) kp wr)) hx hb hK hP hD hS (139 + (0)) 0 ((xw_r).trans (lw_0)) rfl (vp_in_nI (show 4 < 15 by decide) (by omega)) dL_members_460 ((xw_rs).trans (congrArg (fun w_ => xw0 cI cC cM cB ad z t sg sz r x h ah (nI nx) (nI kp) zh w_) (z_ixw (k := 4) rfl (by omega) (fun q_ => (lwS cI na ma (upd (upd (upd (upd (upd (upd (upd (upd (upd (upd (upd z (14 + 16 * a + 1) ((z (14 + 16 * a + 1)) + ((valP (z (25 + 16 * a + sk)) (nI (1 + m_))) - (minP ((valP (z (25 + 16 * a + sk)) (nI (1 + m_))) / 2) (z (14 + 16 * a + 2)))))) (14 + 16 * a + 2) ((z (14 + 16 * a + 2)) - (minP ((valP (z (25 + 16 * a + sk)) (nI (1 + m_))) / 2) (z (14 + 16 * a + 2))))) 6 ((z 6) + (minP ((valP (z (25 + 16 * a + sk)) (nI (1 + m_))) / 2) (z (14 + 16 * a + 2))))) (14 + 16 * a + 4) 1) (14 + 16 * a + 5) ((z (14 + 16 * a + 5)) + (nI (1 + m_)))) (14 + 16 * a + 7) ((z (14 + 16 * a + 7)) + (valP (z (25 + 16 * a + sk)) (nI (1 + m_))))) (25 + 16 * a + sk) (minP (z (25 + 16 * a + sk) + nI (1 + m_)) 9999)) (14 + 16 * b + 1) ((z (14 + 16 * b + 1)) - (valP (z (25 + 16 * a + sk)) (nI (1 + m_))))) (14 + 16 * b + 4) 1) (14 + 16 * b + 6) ((z (14 + 16 * b + 6)) + (nI (1 + m_)))) (14 + 16 * b + 8) ((z (14 + 16 * b + 8)) + (valP (z (25 + 16 * a + sk)) (nI (1 + m_))))) kp wr).set 0 (na, .inl (cI, 15, .inl (upd (nfn (upd (upd (upd (upd (upd (upd (upd (upd (upd (upd (upd z (14 + 16 * a + 1) ((z (14 + 16 * a + 1)) + ((valP (z (25 + 16 * a + sk)) (nI (1 + m_))) - (minP ((valP (z (25 + 16 * a + sk)) (nI (1 + m_))) / 2) (z (14 + 16 * a + 2)))))) (14 + 16 * a + 2) ((z (14 + 16 * a + 2)) - (minP ((valP (z (25 + 16 * a + sk)) (nI (1 + m_))) / 2) (z (14 + 16 * a + 2))))) 6 ((z 6) + (minP ((valP (z (25 + 16 * a + sk)) (nI (1 + m_))) / 2) (z (14 + 16 * a + 2))))) (14 + 16 * a + 4) 1) (14 + 16 * a + 5) ((z (14 + 16 * a + 5)) + (nI (1 + m_)))) (14 + 16 * a + 7) ((z (14 + 16 * a + 7)) + (valP (z (25 + 16 * a + sk)) (nI (1 + m_))))) (25 + 16 * a + sk) (minP (z (25 + 16 * a + sk) + nI (1 + m_)) 9999)) (14 + 16 * b + 1) ((z (14 + 16 * b + 1)) - (valP (z (25 + 16 * a + sk)) (nI (1 + m_))))) (14 + 16 * b + 4) 1) (14 + 16 * b + 6) ((z (14 + 16 * b + 6)) + (nI (1 + m_)))) (14 + 16 * b + 8) ((z (14 + 16 * b + 8)) + (valP (z (25 + 16 * a + sk)) (nI (1 + m_))))) kp) q_ ((z 9) + 1))))) (lw_wx (by decide) (by decide) rfl)))) (fun H locs hP hD hS => ?_)
            refine lv_aload_n hx hb dL_members_461 rfl (lv_at hl 3 rfl) ?_
            refine lv_iconst (v := 5) hx hb dL_members_462 (by decide) ?_
            refine va_iald hx hb hK hP (139 + (0)) 0 ((xw_r).trans (lw_0)) rfl (vp_in_nI (show 5 < 15 by decide) (by omega)) dL_members_463 ?_
            refine z_top (v2 := .int (nI kp)) (congrArg Value.int (nf_5 rfl)) ?_
            have J476_1 : ∀ (H : Heap) (locs : List Loc), va_P D vwCl (xw0 cI cC cM cB ad z t sg sz r x h ah (nI nx) (nI kp) zh (lwS cI na ma (upd (upd (upd (upd (upd (upd (upd (upd (upd (upd (upd (upd z (14 + 16 * a + 1) ((z (14 + 16 * a + 1)) + ((valP (z (25 + 16 * a + sk)) (nI (1 + m_))) - (minP ((valP (z (25 + 16 * a + sk)) (nI (1 + m_))) / 2) (z (14 + 16 * a + 2)))))) (14 + 16 * a + 2) ((z (14 + 16 * a + 2)) - (minP ((valP (z (25 + 16 * a + sk)) (nI (1 + m_))) / 2) (z (14 + 16 * a + 2))))) 6 ((z 6) + (minP ((valP (z (25 + 16 * a + sk)) (nI (1 + m_))) / 2) (z (14 + 16 * a + 2))))) (14 + 16 * a + 4) 1) (14 + 16 * a + 5) ((z (14 + 16 * a + 5)) + (nI (1 + m_)))) (14 + 16 * a + 7) ((z (14 + 16 * a + 7)) + (valP (z (25 + 16 * a + sk)) (nI (1 + m_))))) (25 + 16 * a + sk) (minP (z (25 + 16 * a + sk) + nI (1 + m_)) 9999)) (14 + 16 * b + 1) ((z (14 + 16 * b + 1)) - (valP (z (25 + 16 * a + sk)) (nI (1 + m_))))) (14 + 16 * b + 4) 1) (14 + 16 * b + 6) ((z (14 + 16 * b + 6)) + (nI (1 + m_)))) (14 + 16 * b + 8) ((z (14 + 16 * b + 8)) + (valP (z (25 + 16 * a + sk)) (nI (1 + m_))))) 9 ((z 9) + 1)) (min (kp + 1) 6) wr)) H → va_D A (xw0 cI cC cM cB ad z t sg sz r x h ah (nI nx) (nI kp) zh (lwS cI na ma (upd (upd (upd (upd (upd (upd (upd (upd (upd (upd (upd (upd z (14 + 16 * a + 1) ((z (14 + 16 * a + 1)) + ((valP (z (25 + 16 * a + sk)) (nI (1 + m_))) - (minP ((valP (z (25 + 16 * a + sk)) (nI (1 + m_))) / 2) (z (14 + 16 * a + 2)))))) (14 + 16 * a + 2) ((z (14 + 16 * a + 2)) - (minP ((valP (z (25 + 16 * a + sk)) (nI (1 + m_))) / 2) (z (14 + 16 * a + 2))))) 6 ((z 6) + (minP ((valP (z (25 + 16 * a + sk)) (nI (1 + m_))) / 2) (z (14 + 16 * a + 2))))) (14 + 16 * a + 4) 1) (14 + 16 * a + 5) ((z (14 + 16 * a + 5)) + (nI (1 + m_)))) (14 + 16 * a + 7) ((z (14 + 16 * a + 7)) + (valP (z (25 + 16 * a + sk)) (nI (1 + m_))))) (25 + 16 * a + sk) (minP (z (25 + 16 * a + sk) + nI (1 + m_)) 9999)) (14 + 16 * b + 1) ((z (14 + 16 * b + 1)) - (valP (z (25 + 16 * a + sk)) (nI (1 + m_))))) (14 + 16 * b + 4) 1) (14 + 16 * b + 6) ((z (14 + 16 * b + 6)) + (nI (1 + m_)))) (14 + 16 * b + 8) ((z (14 + 16 * b + 8)) + (valP (z (25 + 16 * a + sk)) (nI (1 + m_))))) 9 ((z 9) + 1)) (min (kp + 1) 6) wr)) → va_S A s.heap H locs → ∀ ls : Array Slot, lv_has ls 12 [(0, .ref x), (1, .int xv), (2, .int yv), (3, .ref na), (4, .ref ma), (5, .int (atP xv 12)), (6, .int (nI a)), (7, .int (nI b)), (8, .int (nI sk)), (9, .int (nI (1 + m_))), (10, .int (valP (z (25 + 16 * a + sk)) (nI (1 + m_)))), (11, .int (minP ((valP (z (25 + 16 * a + sk)) (nI (1 + m_))) / 2) (z (14 + 16 * a + 2))))] → W p l e ({ frames := 7, cells := 1, slots := 6, locals := 136 } : Room) s m ([.ref x, .int xv, .int yv, .ref na, .ref ma] : List Value).toArray below meth c H locs 0 0 (MQ below (zRQ D (zT cI cC cM cB cJ) (pG cI cC cM cB ad t sg sz r x h ah na ma wr (k + 1)) (some (.int 1)) A) ([.ref x, .int xv, .int yv, .ref na, .ref ma] : List Value).toArray s 1 6 A) (F0 m 476 ls []) := by
              intro H locs hP hD hS ls hl
              refine lv_aload_n hx hb dL_members_476 rfl (lv_at hl 0 rfl) ?_
              refine lv_iload hx hb dL_members_477 (lv_at hl 6 rfl) ?_
              refine lv_iload hx hb dL_members_479 (lv_at hl 7 rfl) ?_
              refine lv_iload hx hb dL_members_481 (lv_at hl 8 rfl) ?_
              refine lv_iload hx hb dL_members_483 (lv_at hl 9 rfl) ?_
              have hM := c_X5_give (l := l) (D := D) (cI := cI) (cC := cC) (cM := cM) (cB := cB) (cJ := cJ) (ad := ad) (z := z) (t := t) (h := h) (ah := ah) (zh := zh) (x := x) (sg := sg) (r := r) (sz := sz) (nx := nx) (kp := kp) (wr := lwS cI na ma (upd (upd (upd (upd (upd (upd (upd (upd (upd (upd (upd (upd z (14 + 16 * a + 1) ((z (14 + 16 * a + 1)) + ((valP (z (25 + 16 * a + sk)) (nI (1 + m_))) - (minP ((valP (z (25 + 16 * a + sk)) (nI (1 + m_))) / 2) (z (14 + 16 * a + 2)))))) (14 + 16 * a + 2) ((z (14 + 16 * a + 2)) - (minP ((valP (z (25 + 16 * a + sk)) (nI (1 + m_))) / 2) (z (14 + 16 * a + 2))))) 6 ((z 6) + (minP ((valP (z (25 + 16 * a + sk)) (nI (1 + m_))) / 2) (z (14 + 16 * a + 2))))) (14 + 16 * a + 4) 1) (14 + 16 * a + 5) ((z (14 + 16 * a + 5)) + (nI (1 + m_)))) (14 + 16 * a + 7) ((z (14 + 16 * a + 7)) + (valP (z (25 + 16 * a + sk)) (nI (1 + m_))))) (25 + 16 * a + sk) (minP (z (25 + 16 * a + sk) + nI (1 + m_)) 9999)) (14 + 16 * b + 1) ((z (14 + 16 * b + 1)) - (valP (z (25 + 16 * a + sk)) (nI (1 + m_))))) (14 + 16 * b + 4) 1) (14 + 16 * b + 6) ((z (14 + 16 * b + 6)) + (nI (1 + m_)))) (14 + 16 * b + 8) ((z (14 + 16 * b + 8)) + (valP (z (25 + 16 * a + sk)) (nI (1 + m_))))) 9 ((z 9) + 1)) (min (kp + 1) 6) wr) hfl (n := n) (by omega) hz hnx hkp hB (nI a) (nI b) (nI sk) (nI (1 + m_))
              rw [cl_nI (show a < 2 ^ 31 by omega), cl_nI (show b < 2 ^ 31 by omega), cl_nI (show sk < 2 ^ 31 by omega)] at hM
              refine z_callX (rest := []) S hM qm_L_44 v_X5_give ⟨Nat.le_of_ble_eq_true rfl, Nat.le_of_ble_eq_true rfl⟩ rfl rfl hJ hN hK hP hD hS hA 22 xw_x rfl rfl hl.1 rfl (Nat.le_of_ble_eq_true rfl) dL_members_485 ⟨Nat.le_of_ble_eq_true rfl, Nat.le_of_ble_eq_true rfl⟩ (fun _ H locs hP hD hS => ?_) (fun q_ => absurd (kg_give (by omega) (by omega) (by omega) (by omega) hB (mn_in (N := 600) (by omega) (by omega)) c41) q_)
              refine W.eq (g2 := F0 m 488 ls [.int (valP (z (25 + 16 * a + sk)) (nI (1 + m_)))]) rfl ?_
              refine lv_iload hx hb dL_members_488 (lv_at hl 10 rfl) ?_
              refine lv_icmp_ne (tgt := 497) hx hb dL_members_490 (by decide) (fun c42 => absurd c42 (not_not_intro rfl)) (fun c42 => ?_)
              refine lv_iconst (v := 1) hx hb dL_members_493 (by decide) ?_
              refine lv_goto (tgt := 498) hx hb dL_members_494 (by decide) ?_
              exact z_zretR hx hb hr hlocks hP hD hK hS (pg_mk (ps_give hk hI (by omega) (by omega) (by omega) hab (by omega) (mn_bt (N := 600) (by omega) (by omega)) c41.2.2.2) (fun _ _ _ _ => rfl) (fun q _ => giv_eq hab (by omega) q) rfl) rfl rfl dL_members_498
            refine lv_bipush (v := 6) hx hb dL_members_464 (by decide) ?_
            refine lv_icmp_ge (tgt := 476) hx hb dL_members_466 (by decide) (fun c43 => ?_) (fun c43 => ?_)
            · have c43 := z_nlt c43
              have hP := va_P_eq (w2 := xw0 cI cC cM cB ad z t sg sz r x h ah (nI nx) (nI kp) zh (lwS cI na ma (upd (upd (upd (upd (upd (upd (upd (upd (upd (upd (upd (upd z (14 + 16 * a + 1) ((z (14 + 16 * a + 1)) + ((valP (z (25 + 16 * a + sk)) (nI (1 + m_))) - (minP ((valP (z (25 + 16 * a + sk)) (nI (1 + m_))) / 2) (z (14 + 16 * a + 2)))))) (14 + 16 * a + 2) ((z (14 + 16 * a + 2)) - (minP ((valP (z (25 + 16 * a + sk)) (nI (1 + m_))) / 2) (z (14 + 16 * a + 2))))) 6 ((z 6) + (minP ((valP (z (25 + 16 * a + sk)) (nI (1 + m_))) / 2) (z (14 + 16 * a + 2))))) (14 + 16 * a + 4) 1) (14 + 16 * a + 5) ((z (14 + 16 * a + 5)) + (nI (1 + m_)))) (14 + 16 * a + 7) ((z (14 + 16 * a + 7)) + (valP (z (25 + 16 * a + sk)) (nI (1 + m_))))) (25 + 16 * a + sk) (minP (z (25 + 16 * a + sk) + nI (1 + m_)) 9999)) (14 + 16 * b + 1) ((z (14 + 16 * b + 1)) - (valP (z (25 + 16 * a + sk)) (nI (1 + m_))))) (14 + 16 * b + 4) 1) (14 + 16 * b + 6) ((z (14 + 16 * b + 6)) + (nI (1 + m_)))) (14 + 16 * b + 8) ((z (14 + 16 * b + 8)) + (valP (z (25 + 16 * a + sk)) (nI (1 + m_))))) 9 ((z 9) + 1)) (min (kp + 1) 6) wr)) (congrArg (fun q_ => xw0 cI cC cM cB ad z t sg sz r x h ah (nI nx) (nI kp) zh (lwS cI na ma (upd (upd (upd (upd (upd (upd (upd (upd (upd (upd (upd (upd z (14 + 16 * a + 1) ((z (14 + 16 * a + 1)) + ((valP (z (25 + 16 * a + sk)) (nI (1 + m_))) - (minP ((valP (z (25 + 16 * a + sk)) (nI (1 + m_))) / 2) (z (14 + 16 * a + 2)))))) (14 + 16 * a + 2) ((z (14 + 16 * a + 2)) - (minP ((valP (z (25 + 16 * a + sk)) (nI (1 + m_))) / 2) (z (14 + 16 * a + 2))))) 6 ((z 6) + (minP ((valP (z (25 + 16 * a + sk)) (nI (1 + m_))) / 2) (z (14 + 16 * a + 2))))) (14 + 16 * a + 4) 1) (14 + 16 * a + 5) ((z (14 + 16 * a + 5)) + (nI (1 + m_)))) (14 + 16 * a + 7) ((z (14 + 16 * a + 7)) + (valP (z (25 + 16 * a + sk)) (nI (1 + m_))))) (25 + 16 * a + sk) (minP (z (25 + 16 * a + sk) + nI (1 + m_)) 9999)) (14 + 16 * b + 1) ((z (14 + 16 * b + 1)) - (valP (z (25 + 16 * a + sk)) (nI (1 + m_))))) (14 + 16 * b + 4) 1) (14 + 16 * b + 6) ((z (14 + 16 * b + 6)) + (nI (1 + m_)))) (14 + 16 * b + 8) ((z (14 + 16 * b + 8)) + (valP (z (25 + 16 * a + sk)) (nI (1 + m_))))) 9 ((z 9) + 1)) q_ wr)) (show kp = min (kp + 1) 6 by have : ¬ kp < 6 := fun q => c43 ((nI_lti (a := kp) (b := 6) (by omega) (by omega)).mpr q); omega)) hP
              have hD := va_D_eq (w2 := xw0 cI cC cM cB ad z t sg sz r x h ah (nI nx) (nI kp) zh (lwS cI na ma (upd (upd (upd (upd (upd (upd (upd (upd (upd (upd (upd (upd z (14 + 16 * a + 1) ((z (14 + 16 * a + 1)) + ((valP (z (25 + 16 * a + sk)) (nI (1 + m_))) - (minP ((valP (z (25 + 16 * a + sk)) (nI (1 + m_))) / 2) (z (14 + 16 * a + 2)))))) (14 + 16 * a + 2) ((z (14 + 16 * a + 2)) - (minP ((valP (z (25 + 16 * a + sk)) (nI (1 + m_))) / 2) (z (14 + 16 * a + 2))))) 6 ((z 6) + (minP ((valP (z (25 + 16 * a + sk)) (nI (1 + m_))) / 2) (z (14 + 16 * a + 2))))) (14 + 16 * a + 4) 1) (14 + 16 * a + 5) ((z (14 + 16 * a + 5)) + (nI (1 + m_)))) (14 + 16 * a + 7) ((z (14 + 16 * a + 7)) + (valP (z (25 + 16 * a + sk)) (nI (1 + m_))))) (25 + 16 * a + sk) (minP (z (25 + 16 * a + sk) + nI (1 + m_)) 9999)) (14 + 16 * b + 1) ((z (14 + 16 * b + 1)) - (valP (z (25 + 16 * a + sk)) (nI (1 + m_))))) (14 + 16 * b + 4) 1) (14 + 16 * b + 6) ((z (14 + 16 * b + 6)) + (nI (1 + m_)))) (14 + 16 * b + 8) ((z (14 + 16 * b + 8)) + (valP (z (25 + 16 * a + sk)) (nI (1 + m_))))) 9 ((z 9) + 1)) (min (kp + 1) 6) wr)) (congrArg (fun q_ => xw0 cI cC cM cB ad z t sg sz r x h ah (nI nx) (nI kp) zh (lwS cI na ma (upd (upd (upd (upd (upd (upd (upd (upd (upd (upd (upd (upd z (14 + 16 * a + 1) ((z (14 + 16 * a + 1)) + ((valP (z (25 + 16 * a + sk)) (nI (1 + m_))) - (minP ((valP (z (25 + 16 * a + sk)) (nI (1 + m_))) / 2) (z (14 + 16 * a + 2)))))) (14 + 16 * a + 2) ((z (14 + 16 * a + 2)) - (minP ((valP (z (25 + 16 * a + sk)) (nI (1 + m_))) / 2) (z (14 + 16 * a + 2))))) 6 ((z 6) + (minP ((valP (z (25 + 16 * a + sk)) (nI (1 + m_))) / 2) (z (14 + 16 * a + 2))))) (14 + 16 * a + 4) 1) (14 + 16 * a + 5) ((z (14 + 16 * a + 5)) + (nI (1 + m_)))) (14 + 16 * a + 7) ((z (14 + 16 * a + 7)) + (valP (z (25 + 16 * a + sk)) (nI (1 + m_))))) (25 + 16 * a + sk) (minP (z (25 + 16 * a + sk) + nI (1 + m_)) 9999)) (14 + 16 * b + 1) ((z (14 + 16 * b + 1)) - (valP (z (25 + 16 * a + sk)) (nI (1 + m_))))) (14 + 16 * b + 4) 1) (14 + 16 * b + 6) ((z (14 + 16 * b + 6)) + (nI (1 + m_)))) (14 + 16 * b + 8) ((z (14 + 16 * b + 8)) + (valP (z (25 + 16 * a + sk)) (nI (1 + m_))))) 9 ((z 9) + 1)) q_ wr)) (show kp = min (kp + 1) 6 by have : ¬ kp < 6 := fun q => c43 ((nI_lti (a := kp) (b := 6) (by omega) (by omega)).mpr q); omega)) hD
              exact J476_1 _ _ hP hD hS ls (lv_sub hl [0, 1, 2, 3, 4, 5, 6, 7, 8, 9, 10, 11] rfl)
            · have c43 := z_lt c43
              refine lv_aload_n hx hb dL_members_469 rfl (lv_at hl 3 rfl) ?_
              refine lv_iconst (v := 5) hx hb dL_members_470 (by decide) ?_
              refine lv_dup2_11 hx hb dL_members_471 rfl rfl ?_
              refine va_iald hx hb hK hP (139 + (0)) 0 ((xw_r).trans (lw_0)) rfl (vp_in_nI (show 5 < 15 by decide) (by omega)) dL_members_472 ?_
              refine z_top (v2 := .int (nI kp)) (congrArg Value.int (nf_5 rfl)) ?_
              refine lv_iconst (v := 1) hx hb dL_members_473 (by decide) ?_
              refine lv_iadd hx hb dL_members_474  ?_
              refine z_top (v2 := .int (nI (kp + 1))) (congrArg Value.int (nI_add kp 1)) ?_
              refine z_iast (ws2 := xw0 cI cC cM cB ad z t sg sz r x h ah (nI nx) (nI kp) zh (lwS cI na ma (upd (upd (upd (upd (upd (upd (upd (upd (upd (upd (upd (upd z (14 + 16 * a + 1) ((z (14 + 16 * a + 1)) + ((valP (z (25 + 16 * a + sk)) (nI (1 + m_))) - (minP ((valP (z (25 + 16 * a + sk)) (nI (1 + m_))) / 2) (z (14 + 16 * a + 2)))))) (14 + 16 * a + 2) ((z (14 + 16 * a + 2)) - (minP ((valP (z (25 + 16 * a + sk)) (nI (1 + m_))) / 2) (z (14 + 16 * a + 2))))) 6 ((z 6) + (minP ((valP (z (25 + 16 * a + sk)) (nI (1 + m_))) / 2) (z (14 + 16 * a + 2))))) (14 + 16 * a + 4) 1) (14 + 16 * a + 5) ((z (14 + 16 * a + 5)) + (nI (1 + m_)))) (14 + 16 * a + 7) ((z (14 + 16 * a + 7)) + (valP (z (25 + 16 * a + sk)) (nI (1 + m_))))) (25 + 16 * a + sk) (minP (z (25 + 16 * a + sk) + nI (1 + m_)) 9999)) (14 + 16 * b + 1) ((z (14 + 16 * b + 1)) - (valP (z (25 + 16 * a + sk)) (nI (1 + m_))))) (14 + 16 * b + 4) 1) (14 + 16 * b + 6) ((z (14 + 16 * b + 6)) + (nI (1 + m_)))) (14 + 16 * b + 8) ((z (14 + 16 * b + 8)) + (valP (z (25 + 16 * a + sk)) (nI (1 + m_))))) 9 ((z 9) + 1)) (kp + 1) wr)) hx hb hK hP hD hS (139 + (0)) 0 ((xw_r).trans (lw_0)) rfl (vp_in_nI (show 5 < 15 by decide) (by omega)) dL_members_475 ((xw_rs).trans (congrArg (fun w_ => xw0 cI cC cM cB ad z t sg sz r x h ah (nI nx) (nI kp) zh w_) (z_ixw (k := 5) rfl (by omega) (fun q_ => (lwS cI na ma (upd (upd (upd (upd (upd (upd (upd (upd (upd (upd (upd (upd z (14 + 16 * a + 1) ((z (14 + 16 * a + 1)) + ((valP (z (25 + 16 * a + sk)) (nI (1 + m_))) - (minP ((valP (z (25 + 16 * a + sk)) (nI (1 + m_))) / 2) (z (14 + 16 * a + 2)))))) (14 + 16 * a + 2) ((z (14 + 16 * a + 2)) - (minP ((valP (z (25 + 16 * a + sk)) (nI (1 + m_))) / 2) (z (14 + 16 * a + 2))))) 6 ((z 6) + (minP ((valP (z (25 + 16 * a + sk)) (nI (1 + m_))) / 2) (z (14 + 16 * a + 2))))) (14 + 16 * a + 4) 1) (14 + 16 * a + 5) ((z (14 + 16 * a + 5)) + (nI (1 + m_)))) (14 + 16 * a + 7) ((z (14 + 16 * a + 7)) + (valP (z (25 + 16 * a + sk)) (nI (1 + m_))))) (25 + 16 * a + sk) (minP (z (25 + 16 * a + sk) + nI (1 + m_)) 9999)) (14 + 16 * b + 1) ((z (14 + 16 * b + 1)) - (valP (z (25 + 16 * a + sk)) (nI (1 + m_))))) (14 + 16 * b + 4) 1) (14 + 16 * b + 6) ((z (14 + 16 * b + 6)) + (nI (1 + m_)))) (14 + 16 * b + 8) ((z (14 + 16 * b + 8)) + (valP (z (25 + 16 * a + sk)) (nI (1 + m_))))) 9 ((z 9) + 1)) kp wr).set 0 (na, .inl (cI, 15, .inl (upd (nfn (upd (upd (upd (upd (upd (upd (upd (upd (upd (upd (upd (upd z (14 + 16 * a + 1) ((z (14 + 16 * a + 1)) + ((valP (z (25 + 16 * a + sk)) (nI (1 + m_))) - (minP ((valP (z (25 + 16 * a + sk)) (nI (1 + m_))) / 2) (z (14 + 16 * a + 2)))))) (14 + 16 * a + 2) ((z (14 + 16 * a + 2)) - (minP ((valP (z (25 + 16 * a + sk)) (nI (1 + m_))) / 2) (z (14 + 16 * a + 2))))) 6 ((z 6) + (minP ((valP (z (25 + 16 * a + sk)) (nI (1 + m_))) / 2) (z (14 + 16 * a + 2))))) (14 + 16 * a + 4) 1) (14 + 16 * a + 5) ((z (14 + 16 * a + 5)) + (nI (1 + m_)))) (14 + 16 * a + 7) ((z (14 + 16 * a + 7)) + (valP (z (25 + 16 * a + sk)) (nI (1 + m_))))) (25 + 16 * a + sk) (minP (z (25 + 16 * a + sk) + nI (1 + m_)) 9999)) (14 + 16 * b + 1) ((z (14 + 16 * b + 1)) - (valP (z (25 + 16 * a + sk)) (nI (1 + m_))))) (14 + 16 * b + 4) 1) (14 + 16 * b + 6) ((z (14 + 16 * b + 6)) + (nI (1 + m_)))) (14 + 16 * b + 8) ((z (14 + 16 * b + 8)) + (valP (z (25 + 16 * a + sk)) (nI (1 + m_))))) 9 ((z 9) + 1)) kp) q_ (nI (kp + 1)))))) lw_wk))) (fun H locs hP hD hS => ?_)
              have hP := va_P_eq (w2 := xw0 cI cC cM cB ad z t sg sz r x h ah (nI nx) (nI kp) zh (lwS cI na ma (upd (upd (upd (upd (upd (upd (upd (upd (upd (upd (upd (upd z (14 + 16 * a + 1) ((z (14 + 16 * a + 1)) + ((valP (z (25 + 16 * a + sk)) (nI (1 + m_))) - (minP ((valP (z (25 + 16 * a + sk)) (nI (1 + m_))) / 2) (z (14 + 16 * a + 2)))))) (14 + 16 * a + 2) ((z (14 + 16 * a + 2)) - (minP ((valP (z (25 + 16 * a + sk)) (nI (1 + m_))) / 2) (z (14 + 16 * a + 2))))) 6 ((z 6) + (minP ((valP (z (25 + 16 * a + sk)) (nI (1 + m_))) / 2) (z (14 + 16 * a + 2))))) (14 + 16 * a + 4) 1) (14 + 16 * a + 5) ((z (14 + 16 * a + 5)) + (nI (1 + m_)))) (14 + 16 * a + 7) ((z (14 + 16 * a + 7)) + (valP (z (25 + 16 * a + sk)) (nI (1 + m_))))) (25 + 16 * a + sk) (minP (z (25 + 16 * a + sk) + nI (1 + m_)) 9999)) (14 + 16 * b + 1) ((z (14 + 16 * b + 1)) - (valP (z (25 + 16 * a + sk)) (nI (1 + m_))))) (14 + 16 * b + 4) 1) (14 + 16 * b + 6) ((z (14 + 16 * b + 6)) + (nI (1 + m_)))) (14 + 16 * b + 8) ((z (14 + 16 * b + 8)) + (valP (z (25 + 16 * a + sk)) (nI (1 + m_))))) 9 ((z 9) + 1)) (min (kp + 1) 6) wr)) (congrArg (fun q_ => xw0 cI cC cM cB ad z t sg sz r x h ah (nI nx) (nI kp) zh (lwS cI na ma (upd (upd (upd (upd (upd (upd (upd (upd (upd (upd (upd (upd z (14 + 16 * a + 1) ((z (14 + 16 * a + 1)) + ((valP (z (25 + 16 * a + sk)) (nI (1 + m_))) - (minP ((valP (z (25 + 16 * a + sk)) (nI (1 + m_))) / 2) (z (14 + 16 * a + 2)))))) (14 + 16 * a + 2) ((z (14 + 16 * a + 2)) - (minP ((valP (z (25 + 16 * a + sk)) (nI (1 + m_))) / 2) (z (14 + 16 * a + 2))))) 6 ((z 6) + (minP ((valP (z (25 + 16 * a + sk)) (nI (1 + m_))) / 2) (z (14 + 16 * a + 2))))) (14 + 16 * a + 4) 1) (14 + 16 * a + 5) ((z (14 + 16 * a + 5)) + (nI (1 + m_)))) (14 + 16 * a + 7) ((z (14 + 16 * a + 7)) + (valP (z (25 + 16 * a + sk)) (nI (1 + m_))))) (25 + 16 * a + sk) (minP (z (25 + 16 * a + sk) + nI (1 + m_)) 9999)) (14 + 16 * b + 1) ((z (14 + 16 * b + 1)) - (valP (z (25 + 16 * a + sk)) (nI (1 + m_))))) (14 + 16 * b + 4) 1) (14 + 16 * b + 6) ((z (14 + 16 * b + 6)) + (nI (1 + m_)))) (14 + 16 * b + 8) ((z (14 + 16 * b + 8)) + (valP (z (25 + 16 * a + sk)) (nI (1 + m_))))) 9 ((z 9) + 1)) q_ wr)) (show kp + 1 = min (kp + 1) 6 by have := (nI_lti (a := kp) (b := 6) (by omega) (by omega)).mp c43; omega)) hP
              have hD := va_D_eq (w2 := xw0 cI cC cM cB ad z t sg sz r x h ah (nI nx) (nI kp) zh (lwS cI na ma (upd (upd (upd (upd (upd (upd (upd (upd (upd (upd (upd (upd z (14 + 16 * a + 1) ((z (14 + 16 * a + 1)) + ((valP (z (25 + 16 * a + sk)) (nI (1 + m_))) - (minP ((valP (z (25 + 16 * a + sk)) (nI (1 + m_))) / 2) (z (14 + 16 * a + 2)))))) (14 + 16 * a + 2) ((z (14 + 16 * a + 2)) - (minP ((valP (z (25 + 16 * a + sk)) (nI (1 + m_))) / 2) (z (14 + 16 * a + 2))))) 6 ((z 6) + (minP ((valP (z (25 + 16 * a + sk)) (nI (1 + m_))) / 2) (z (14 + 16 * a + 2))))) (14 + 16 * a + 4) 1) (14 + 16 * a + 5) ((z (14 + 16 * a + 5)) + (nI (1 + m_)))) (14 + 16 * a + 7) ((z (14 + 16 * a + 7)) + (valP (z (25 + 16 * a + sk)) (nI (1 + m_))))) (25 + 16 * a + sk) (minP (z (25 + 16 * a + sk) + nI (1 + m_)) 9999)) (14 + 16 * b + 1) ((z (14 + 16 * b + 1)) - (valP (z (25 + 16 * a + sk)) (nI (1 + m_))))) (14 + 16 * b + 4) 1) (14 + 16 * b + 6) ((z (14 + 16 * b + 6)) + (nI (1 + m_)))) (14 + 16 * b + 8) ((z (14 + 16 * b + 8)) + (valP (z (25 + 16 * a + sk)) (nI (1 + m_))))) 9 ((z 9) + 1)) (min (kp + 1) 6) wr)) (congrArg (fun q_ => xw0 cI cC cM cB ad z t sg sz r x h ah (nI nx) (nI kp) zh (lwS cI na ma (upd (upd (upd (upd (upd (upd (upd (upd (upd (upd (upd (upd z (14 + 16 * a + 1) ((z (14 + 16 * a + 1)) + ((valP (z (25 + 16 * a + sk)) (nI (1 + m_))) - (minP ((valP (z (25 + 16 * a + sk)) (nI (1 + m_))) / 2) (z (14 + 16 * a + 2)))))) (14 + 16 * a + 2) ((z (14 + 16 * a + 2)) - (minP ((valP (z (25 + 16 * a + sk)) (nI (1 + m_))) / 2) (z (14 + 16 * a + 2))))) 6 ((z 6) + (minP ((valP (z (25 + 16 * a + sk)) (nI (1 + m_))) / 2) (z (14 + 16 * a + 2))))) (14 + 16 * a + 4) 1) (14 + 16 * a + 5) ((z (14 + 16 * a + 5)) + (nI (1 + m_)))) (14 + 16 * a + 7) ((z (14 + 16 * a + 7)) + (valP (z (25 + 16 * a + sk)) (nI (1 + m_))))) (25 + 16 * a + sk) (minP (z (25 + 16 * a + sk) + nI (1 + m_)) 9999)) (14 + 16 * b + 1) ((z (14 + 16 * b + 1)) - (valP (z (25 + 16 * a + sk)) (nI (1 + m_))))) (14 + 16 * b + 4) 1) (14 + 16 * b + 6) ((z (14 + 16 * b + 6)) + (nI (1 + m_)))) (14 + 16 * b + 8) ((z (14 + 16 * b + 8)) + (valP (z (25 + 16 * a + sk)) (nI (1 + m_))))) 9 ((z 9) + 1)) q_ wr)) (show kp + 1 = min (kp + 1) 6 by have := (nI_lti (a := kp) (b := 6) (by omega) (by omega)).mp c43; omega)) hD
              exact J476_1 _ _ hP hD hS ls (lv_sub hl [0, 1, 2, 3, 4, 5, 6, 7, 8, 9, 10, 11] rfl)
          refine lv_icmp_le (tgt := 396) hx hb dL_members_376 (by decide) (fun c44 => ?_) (fun c44 => ?_)
          · have c44 := z_nlt c44
            have hP := va_P_eq (w2 := xw0 cI cC cM cB ad z t sg sz r x h ah (nI nx) (nI kp) zh (lwS cI na ma (upd (upd (upd (upd (upd (upd (upd z (14 + 16 * a + 1) ((z (14 + 16 * a + 1)) + ((valP (z (25 + 16 * a + sk)) (nI (1 + m_))) - (minP ((valP (z (25 + 16 * a + sk)) (nI (1 + m_))) / 2) (z (14 + 16 * a + 2)))))) (14 + 16 * a + 2) ((z (14 + 16 * a + 2)) - (minP ((valP (z (25 + 16 * a + sk)) (nI (1 + m_))) / 2) (z (14 + 16 * a + 2))))) 6 ((z 6) + (minP ((valP (z (25 + 16 * a + sk)) (nI (1 + m_))) / 2) (z (14 + 16 * a + 2))))) (14 + 16 * a + 4) 1) (14 + 16 * a + 5) ((z (14 + 16 * a + 5)) + (nI (1 + m_)))) (14 + 16 * a + 7) ((z (14 + 16 * a + 7)) + (valP (z (25 + 16 * a + sk)) (nI (1 + m_))))) (25 + 16 * a + sk) (minP (z (25 + 16 * a + sk) + nI (1 + m_)) 9999)) kp wr)) (congrArg (fun q_ => xw0 cI cC cM cB ad z t sg sz r x h ah (nI nx) (nI kp) zh (lwS cI na ma (upd (upd (upd (upd (upd (upd (upd z (14 + 16 * a + 1) ((z (14 + 16 * a + 1)) + ((valP (z (25 + 16 * a + sk)) (nI (1 + m_))) - (minP ((valP (z (25 + 16 * a + sk)) (nI (1 + m_))) / 2) (z (14 + 16 * a + 2)))))) (14 + 16 * a + 2) ((z (14 + 16 * a + 2)) - (minP ((valP (z (25 + 16 * a + sk)) (nI (1 + m_))) / 2) (z (14 + 16 * a + 2))))) 6 ((z 6) + (minP ((valP (z (25 + 16 * a + sk)) (nI (1 + m_))) / 2) (z (14 + 16 * a + 2))))) (14 + 16 * a + 4) 1) (14 + 16 * a + 5) ((z (14 + 16 * a + 5)) + (nI (1 + m_)))) (14 + 16 * a + 7) ((z (14 + 16 * a + 7)) + (valP (z (25 + 16 * a + sk)) (nI (1 + m_))))) (25 + 16 * a + sk) q_) kp wr)) (if_neg c44).symm) hP
            have hD := va_D_eq (w2 := xw0 cI cC cM cB ad z t sg sz r x h ah (nI nx) (nI kp) zh (lwS cI na ma (upd (upd (upd (upd (upd (upd (upd z (14 + 16 * a + 1) ((z (14 + 16 * a + 1)) + ((valP (z (25 + 16 * a + sk)) (nI (1 + m_))) - (minP ((valP (z (25 + 16 * a + sk)) (nI (1 + m_))) / 2) (z (14 + 16 * a + 2)))))) (14 + 16 * a + 2) ((z (14 + 16 * a + 2)) - (minP ((valP (z (25 + 16 * a + sk)) (nI (1 + m_))) / 2) (z (14 + 16 * a + 2))))) 6 ((z 6) + (minP ((valP (z (25 + 16 * a + sk)) (nI (1 + m_))) / 2) (z (14 + 16 * a + 2))))) (14 + 16 * a + 4) 1) (14 + 16 * a + 5) ((z (14 + 16 * a + 5)) + (nI (1 + m_)))) (14 + 16 * a + 7) ((z (14 + 16 * a + 7)) + (valP (z (25 + 16 * a + sk)) (nI (1 + m_))))) (25 + 16 * a + sk) (minP (z (25 + 16 * a + sk) + nI (1 + m_)) 9999)) kp wr)) (congrArg (fun q_ => xw0 cI cC cM cB ad z t sg sz r x h ah (nI nx) (nI kp) zh (lwS cI na ma (upd (upd (upd (upd (upd (upd (upd z (14 + 16 * a + 1) ((z (14 + 16 * a + 1)) + ((valP (z (25 + 16 * a + sk)) (nI (1 + m_))) - (minP ((valP (z (25 + 16 * a + sk)) (nI (1 + m_))) / 2) (z (14 + 16 * a + 2)))))) (14 + 16 * a + 2) ((z (14 + 16 * a + 2)) - (minP ((valP (z (25 + 16 * a + sk)) (nI (1 + m_))) / 2) (z (14 + 16 * a + 2))))) 6 ((z 6) + (minP ((valP (z (25 + 16 * a + sk)) (nI (1 + m_))) / 2) (z (14 + 16 * a + 2))))) (14 + 16 * a + 4) 1) (14 + 16 * a + 5) ((z (14 + 16 * a + 5)) + (nI (1 + m_)))) (14 + 16 * a + 7) ((z (14 + 16 * a + 7)) + (valP (z (25 + 16 * a + sk)) (nI (1 + m_))))) (25 + 16 * a + sk) q_) kp wr)) (if_neg c44).symm) hD
            exact J396_1 _ _ hP hD hS ls (lv_sub hl [0, 1, 2, 3, 4, 5, 6, 7, 8, 9, 10, 11] rfl)
          · have c44 := z_lt c44
            refine lv_aload hx hb dL_members_379 (lv_at hl 4 rfl) ?_
            refine lv_bipush (v := 16) hx hb dL_members_381 (by decide) ?_
            refine lv_iload hx hb dL_members_383 (lv_at hl 6 rfl) ?_
            refine lv_imul hx hb dL_members_385 ?_
            refine z_top (v2 := .int (nI (16 * a))) (congrArg Value.int (pk_mul 16 a)) ?_
            refine lv_bipush (v := 11) hx hb dL_members_386 (by decide) ?_
            refine lv_iadd hx hb dL_members_388  ?_
            refine z_top (v2 := .int (nI (16 * a + 11))) (congrArg Value.int (nI_add (16 * a) 11)) ?_
            refine lv_iload hx hb dL_members_389 (lv_at hl 8 rfl) ?_
            refine lv_iadd hx hb dL_members_391  ?_
            refine z_top (v2 := .int (nI (16 * a + 11 + sk))) (congrArg Value.int (nI_add (16 * a + 11) sk)) ?_
            refine lv_sipush (v := 9999) hx hb dL_members_392 (by decide) ?_
            refine z_iast (ws2 := xw0 cI cC cM cB ad z t sg sz r x h ah (nI nx) (nI kp) zh (lwS cI na ma (upd (upd (upd (upd (upd (upd (upd (upd z (14 + 16 * a + 1) ((z (14 + 16 * a + 1)) + ((valP (z (25 + 16 * a + sk)) (nI (1 + m_))) - (minP ((valP (z (25 + 16 * a + sk)) (nI (1 + m_))) / 2) (z (14 + 16 * a + 2)))))) (14 + 16 * a + 2) ((z (14 + 16 * a + 2)) - (minP ((valP (z (25 + 16 * a + sk)) (nI (1 + m_))) / 2) (z (14 + 16 * a + 2))))) 6 ((z 6) + (minP ((valP (z (25 + 16 * a + sk)) (nI (1 + m_))) / 2) (z (14 + 16 * a + 2))))) (14 + 16 * a + 4) 1) (14 + 16 * a + 5) ((z (14 + 16 * a + 5)) + (nI (1 + m_)))) (14 + 16 * a + 7) ((z (14 + 16 * a + 7)) + (valP (z (25 + 16 * a + sk)) (nI (1 + m_))))) (25 + 16 * a + sk) ((z (25 + 16 * a + sk)) + (nI (1 + m_)))) (25 + 16 * a + sk) 9999) kp wr)) hx hb hK hP hD hS (139 + (1)) 0 ((xw_r).trans (lw_1)) rfl (vp_in_nI (show 16 * a + 11 + sk < 64 by omega) (by omega)) dL_members_395 ((xw_rs).trans (congrArg (fun w_ => xw0 cI cC cM cB ad z t sg sz r x h ah (nI nx) (nI kp) zh w_) (z_ixw rfl (show 16 * a + 11 + sk < 2 ^ 31 by omega) (fun q_ => (lwS cI na ma (upd (upd (upd (upd (upd (upd (upd z (14 + 16 * a + 1) ((z (14 + 16 * a + 1)) + ((valP (z (25 + 16 * a + sk)) (nI (1 + m_))) - (minP ((valP (z (25 + 16 * a + sk)) (nI (1 + m_))) / 2) (z (14 + 16 * a + 2)))))) (14 + 16 * a + 2) ((z (14 + 16 * a + 2)) - (minP ((valP (z (25 + 16 * a + sk)) (nI (1 + m_))) / 2) (z (14 + 16 * a + 2))))) 6 ((z 6) + (minP ((valP (z (25 + 16 * a + sk)) (nI (1 + m_))) / 2) (z (14 + 16 * a + 2))))) (14 + 16 * a + 4) 1) (14 + 16 * a + 5) ((z (14 + 16 * a + 5)) + (nI (1 + m_)))) (14 + 16 * a + 7) ((z (14 + 16 * a + 7)) + (valP (z (25 + 16 * a + sk)) (nI (1 + m_))))) (25 + 16 * a + sk) ((z (25 + 16 * a + sk)) + (nI (1 + m_)))) kp wr).set 1 (ma, .inl (cI, 64, .inl (upd (mfn (upd (upd (upd (upd (upd (upd (upd z (14 + 16 * a + 1) ((z (14 + 16 * a + 1)) + ((valP (z (25 + 16 * a + sk)) (nI (1 + m_))) - (minP ((valP (z (25 + 16 * a + sk)) (nI (1 + m_))) / 2) (z (14 + 16 * a + 2)))))) (14 + 16 * a + 2) ((z (14 + 16 * a + 2)) - (minP ((valP (z (25 + 16 * a + sk)) (nI (1 + m_))) / 2) (z (14 + 16 * a + 2))))) 6 ((z 6) + (minP ((valP (z (25 + 16 * a + sk)) (nI (1 + m_))) / 2) (z (14 + 16 * a + 2))))) (14 + 16 * a + 4) 1) (14 + 16 * a + 5) ((z (14 + 16 * a + 5)) + (nI (1 + m_)))) (14 + 16 * a + 7) ((z (14 + 16 * a + 7)) + (valP (z (25 + 16 * a + sk)) (nI (1 + m_))))) (25 + 16 * a + sk) ((z (25 + 16 * a + sk)) + (nI (1 + m_))))) q_ 9999)))) (lw_wm (show 16 * a + 11 + sk < 64 by omega) (show 14 + (16 * a + 11 + sk) = 25 + 16 * a + sk by omega))))) (fun H locs hP hD hS => ?_)
            have hP := va_P_eq (w2 := xw0 cI cC cM cB ad z t sg sz r x h ah (nI nx) (nI kp) zh (lwS cI na ma (upd (upd (upd (upd (upd (upd (upd z (14 + 16 * a + 1) ((z (14 + 16 * a + 1)) + ((valP (z (25 + 16 * a + sk)) (nI (1 + m_))) - (minP ((valP (z (25 + 16 * a + sk)) (nI (1 + m_))) / 2) (z (14 + 16 * a + 2)))))) (14 + 16 * a + 2) ((z (14 + 16 * a + 2)) - (minP ((valP (z (25 + 16 * a + sk)) (nI (1 + m_))) / 2) (z (14 + 16 * a + 2))))) 6 ((z 6) + (minP ((valP (z (25 + 16 * a + sk)) (nI (1 + m_))) / 2) (z (14 + 16 * a + 2))))) (14 + 16 * a + 4) 1) (14 + 16 * a + 5) ((z (14 + 16 * a + 5)) + (nI (1 + m_)))) (14 + 16 * a + 7) ((z (14 + 16 * a + 7)) + (valP (z (25 + 16 * a + sk)) (nI (1 + m_))))) (25 + 16 * a + sk) (minP (z (25 + 16 * a + sk) + nI (1 + m_)) 9999)) kp wr)) (congrArg (fun q_ => xw0 cI cC cM cB ad z t sg sz r x h ah (nI nx) (nI kp) zh (lwS cI na ma q_ kp wr)) (upd_tw.trans (congrArg (fun v_ => upd (upd (upd (upd (upd (upd (upd z (14 + 16 * a + 1) ((z (14 + 16 * a + 1)) + ((valP (z (25 + 16 * a + sk)) (nI (1 + m_))) - (minP ((valP (z (25 + 16 * a + sk)) (nI (1 + m_))) / 2) (z (14 + 16 * a + 2)))))) (14 + 16 * a + 2) ((z (14 + 16 * a + 2)) - (minP ((valP (z (25 + 16 * a + sk)) (nI (1 + m_))) / 2) (z (14 + 16 * a + 2))))) 6 ((z 6) + (minP ((valP (z (25 + 16 * a + sk)) (nI (1 + m_))) / 2) (z (14 + 16 * a + 2))))) (14 + 16 * a + 4) 1) (14 + 16 * a + 5) ((z (14 + 16 * a + 5)) + (nI (1 + m_)))) (14 + 16 * a + 7) ((z (14 + 16 * a + 7)) + (valP (z (25 + 16 * a + sk)) (nI (1 + m_))))) (25 + 16 * a + sk) v_) (if_pos c44).symm))) hP
            have hD := va_D_eq (w2 := xw0 cI cC cM cB ad z t sg sz r x h ah (nI nx) (nI kp) zh (lwS cI na ma (upd (upd (upd (upd (upd (upd (upd z (14 + 16 * a + 1) ((z (14 + 16 * a + 1)) + ((valP (z (25 + 16 * a + sk)) (nI (1 + m_))) - (minP ((valP (z (25 + 16 * a + sk)) (nI (1 + m_))) / 2) (z (14 + 16 * a + 2)))))) (14 + 16 * a + 2) ((z (14 + 16 * a + 2)) - (minP ((valP (z (25 + 16 * a + sk)) (nI (1 + m_))) / 2) (z (14 + 16 * a + 2))))) 6 ((z 6) + (minP ((valP (z (25 + 16 * a + sk)) (nI (1 + m_))) / 2) (z (14 + 16 * a + 2))))) (14 + 16 * a + 4) 1) (14 + 16 * a + 5) ((z (14 + 16 * a + 5)) + (nI (1 + m_)))) (14 + 16 * a + 7) ((z (14 + 16 * a + 7)) + (valP (z (25 + 16 * a + sk)) (nI (1 + m_))))) (25 + 16 * a + sk) (minP (z (25 + 16 * a + sk) + nI (1 + m_)) 9999)) kp wr)) (congrArg (fun q_ => xw0 cI cC cM cB ad z t sg sz r x h ah (nI nx) (nI kp) zh (lwS cI na ma q_ kp wr)) (upd_tw.trans (congrArg (fun v_ => upd (upd (upd (upd (upd (upd (upd z (14 + 16 * a + 1) ((z (14 + 16 * a + 1)) + ((valP (z (25 + 16 * a + sk)) (nI (1 + m_))) - (minP ((valP (z (25 + 16 * a + sk)) (nI (1 + m_))) / 2) (z (14 + 16 * a + 2)))))) (14 + 16 * a + 2) ((z (14 + 16 * a + 2)) - (minP ((valP (z (25 + 16 * a + sk)) (nI (1 + m_))) / 2) (z (14 + 16 * a + 2))))) 6 ((z 6) + (minP ((valP (z (25 + 16 * a + sk)) (nI (1 + m_))) / 2) (z (14 + 16 * a + 2))))) (14 + 16 * a + 4) 1) (14 + 16 * a + 5) ((z (14 + 16 * a + 5)) + (nI (1 + m_)))) (14 + 16 * a + 7) ((z (14 + 16 * a + 7)) + (valP (z (25 + 16 * a + sk)) (nI (1 + m_))))) (25 + 16 * a + sk) v_) (if_pos c44).symm))) hD
            exact J396_1 _ _ hP hD hS ls (lv_sub hl [0, 1, 2, 3, 4, 5, 6, 7, 8, 9, 10, 11] rfl)
        refine lv_icmp_le (tgt := 257) hx hb dL_members_242 (by decide) (fun c45 => ?_) (fun c45 => ?_)
        · have c45 := z_nlt c45
          have hl := (congrArg (fun qv_ => lv_has ls 12 [(11, qv_), (10, .int (valP (z (25 + 16 * a + sk)) (nI (1 + m_)))), (9, .int (nI (1 + m_))), (8, .int (nI sk)), (7, .int (nI b)), (6, .int (nI a)), (0, .ref x), (1, .int xv), (2, .int yv), (3, .ref na), (4, .ref ma), (5, .int (atP xv 12))]) (show Value.int ((valP (z (25 + 16 * a + sk)) (nI (1 + m_))) / 2) = .int (minP ((valP (z (25 + 16 * a + sk)) (nI (1 + m_))) / 2) (z (14 + 16 * a + 2))) from congrArg Value.int ((if_neg c45).symm))).mp hl
          exact J257_1 _ _ hP hD hS ls (lv_sub hl [6, 7, 8, 9, 10, 11, 5, 4, 3, 2, 1, 0] rfl)
        · have c45 := z_lt c45
          refine lv_aload hx hb dL_members_245 (lv_at hl 10 rfl) ?_
          refine lv_bipush (v := 16) hx hb dL_members_247 (by decide) ?_
          refine lv_iload hx hb dL_members_249 (lv_at hl 5 rfl) ?_
          refine lv_imul hx hb dL_members_251 ?_
          refine z_top (v2 := .int (nI (16 * a))) (congrArg Value.int (pk_mul 16 a)) ?_
          refine lv_iconst (v := 2) hx hb dL_members_252 (by decide) ?_
          refine lv_iadd hx hb dL_members_253  ?_
          refine z_top (v2 := .int (nI (16 * a + 2))) (congrArg Value.int (nI_add (16 * a) 2)) ?_
          refine va_iald hx hb hK hP (139 + (1)) 0 ((xw_r).trans (lw_1)) rfl (vp_in_nI (show 16 * a + 2 < 64 by omega) (by omega)) dL_members_254 ?_
          refine z_top (v2 := .int (z (14 + 16 * a + 2))) (congrArg Value.int ((lm_at rfl (show 16 * a + 2 < 64 by omega) (show 14 + (16 * a + 2) = 14 + 16 * a + 2 by omega)).trans (rfl))) ?_
          refine lv_istore (lv' := [(11, .int (z (14 + 16 * a + 2))), (10, .int (valP (z (25 + 16 * a + sk)) (nI (1 + m_)))), (9, .int (nI (1 + m_))), (8, .int (nI sk)), (7, .int (nI b)), (6, .int (nI a)), (0, .ref x), (1, .int xv), (2, .int yv), (3, .ref na), (4, .ref ma), (5, .int (atP xv 12))]) hx hb dL_members_255 hl (by decide) rfl (fun ls hl => ?_)
          have hl := (congrArg (fun qv_ => lv_has ls 12 [(11, qv_), (10, .int (valP (z (25 + 16 * a + sk)) (nI (1 + m_)))), (9, .int (nI (1 + m_))), (8, .int (nI sk)), (7, .int (nI b)), (6, .int (nI a)), (0, .ref x), (1, .int xv), (2, .int yv), (3, .ref na), (4, .ref ma), (5, .int (atP xv 12))]) (show Value.int (z (14 + 16 * a + 2)) = .int (minP ((valP (z (25 + 16 * a + sk)) (nI (1 + m_))) / 2) (z (14 + 16 * a + 2))) from congrArg Value.int ((if_pos c45).symm))).mp hl
          exact J257_1 _ _ hP hD hS ls (lv_sub hl [6, 7, 8, 9, 10, 11, 5, 4, 3, 2, 1, 0] rfl)
      · have c41 := bI_0 c41
        refine lv_aload_n hx hb dL_members_181 rfl (lv_at hl 4 rfl) ?_
        refine lv_iload hx hb dL_members_182 (lv_at hl 3 rfl) ?_
        refine lv_iload hx hb dL_members_184 (lv_at hl 1 rfl) ?_
        refine lv_iload hx hb dL_members_186 (lv_at hl 0 rfl) ?_
        have hM := c_X5_worth (l := l) (D := D) (cI := cI) (cC := cC) (cM := cM) (cB := cB) (cJ := cJ) (ad := ad) (z := z) (t := t) (h := h) (ah := ah) (zh := zh) (x := x) (sg := sg) (r := r) (sz := sz) (nx := nx) (kp := kp) (wr := lwS cI na ma z kp wr) hfl (n := n) (by omega) hz  (nI a) (nI sk) (nI (1 + m_))
        rw [cl_nI (show a < 2 ^ 31 by omega), cl_nI (show sk < 2 ^ 31 by omega)] at hM
        refine z_callX (rest := []) S hM qm_L_40 v_X5_worth ⟨Nat.le_of_ble_eq_true rfl, Nat.le_of_ble_eq_true rfl⟩ rfl rfl hJ hN hK hP hD hS hA 22 xw_x rfl rfl hl.1 rfl (Nat.le_of_ble_eq_true rfl) dL_members_188 ⟨Nat.le_of_ble_eq_true rfl, Nat.le_of_ble_eq_true rfl⟩ (fun _ H locs hP hD hS => ?_) (fun q_ => absurd (kg_worth (by omega) (by omega) (by omega) (mn_in (N := 600) (by omega) (by omega))) q_)
        refine W.eq (g2 := F0 m 191 ls [.int (valP (z (25 + 16 * a + sk)) (nI (1 + m_)))]) rfl ?_
        refine lv_aload hx hb dL_members_191 (lv_at hl 8 rfl) ?_
        refine lv_iload hx hb dL_members_193 (lv_at hl 3 rfl) ?_
        refine lv_iload hx hb dL_members_195 (lv_at hl 1 rfl) ?_
        refine lv_iload hx hb dL_members_197 (lv_at hl 0 rfl) ?_
        refine z_callS1 (rest := [.int (valP (z (25 + 16 * a + sk)) (nI (1 + m_)))]) S (c_L_value a sk (by omega) (by omega) (nI (1 + m_))) qm_L_22 t_L_value ⟨Nat.le_of_ble_eq_true rfl, Nat.le_of_ble_eq_true rfl⟩ rfl rfl hN hK hP hD hS hA rfl hl.1 rfl (Nat.le_of_ble_eq_true rfl) dL_members_199 ⟨Nat.le_of_ble_eq_true rfl, Nat.le_of_ble_eq_true rfl⟩ (fun H locs hP hD hS => ?_)
        refine lv_icmp_ne (tgt := 209) hx hb dL_members_202 (by decide) (fun c46 => absurd c46 (not_not_intro rfl)) (fun c46 => ?_)
        refine lv_iconst (v := 1) hx hb dL_members_205 (by decide) ?_
        refine lv_goto (tgt := 210) hx hb dL_members_206 (by decide) ?_
        exact z_zretR hx hb hr hlocks hP hD hK hS (pg_id (pI_same hI (by omega))) rfl rfl dL_members_210
  refine lv_icmp_lt (tgt := 27) hx hb dL_members_12 (by decide) (fun c47 => ?_) (fun c47 => ?_)
  · skip
    exact J27_0 (show n < 4 by have := (nI_lti (a := n) (b := 2) (by omega) (by omega)).mp c47; omega) _ _ hP hD hS ls (lv_sub hl [1, 2, 3, 4, 5, 0] rfl)
  · skip
    refine lv_iload hx hb dL_members_15 (lv_at hl 0 rfl) ?_
    refine lv_if_ne (tgt := 114) hx hb dL_members_17 (by decide) (fun c48 => ?_) (fun c48 => ?_)
    · skip
      exact J114_1 (show 2 ≤ n by have : ¬ n < 2 := fun q => c47 ((nI_lti (a := n) (b := 2) (by omega) (by omega)).mpr q); omega) _ _ hP hD hS ls (lv_sub hl [1, 2, 3, 4, 5, 0] rfl)
    · skip
      refine lv_aload_n hx hb dL_members_20 rfl (lv_at hl 4 rfl) ?_
      refine lv_iconst (v := 0) hx hb dL_members_21 (by decide) ?_
      refine va_iald hx hb hK hP (139 + (0)) 0 ((xw_r).trans (lw_0)) rfl (vp_in_nI (show 0 < 15 by decide) (by omega)) dL_members_22 ?_
      refine z_top (v2 := .int (nI n)) (congrArg Value.int ((nf_0 rfl).trans (hz))) ?_
      refine lv_iconst (v := 4) hx hb dL_members_23 (by decide) ?_
      refine lv_icmp_ge (tgt := 114) hx hb dL_members_24 (by decide) (fun c49 => ?_) (fun c49 => ?_)
      · have c49 := z_nlt c49
        exact J114_1 (show 2 ≤ n by have : ¬ n < 2 := fun q => c47 ((nI_lti (a := n) (b := 2) (by omega) (by omega)).mpr q); omega) _ _ hP hD hS ls (lv_sub hl [1, 2, 3, 4, 5, 0] rfl)
      · have c49 := z_lt c49
        exact J27_0 (show n < 4 by have := (nI_lti (a := n) (b := 4) (by omega) (by omega)).mp c49; omega) _ _ hP hD hS ls (lv_sub hl [1, 2, 3, 4, 5, 0] rfl)
end XL
