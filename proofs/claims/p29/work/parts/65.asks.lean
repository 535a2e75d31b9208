/-! The law's asks; the class' reads where nothing is thrown. -/
theorem nI_n0 {n : Nat} (h : 0 < n) (hn : n < 2 ^ 31) : ¬ nI n = 0 := fun q => by
  have := congrArg Int32.toInt q
  rw [nI_toInt hn] at this
  have e : (0 : Int32).toInt = 0 := by decide
  omega
theorem endZ_at {z : Nat → Int32} {q : Nat} (h : q < 10 ∨ 13 < q) : endZ z q = z q := by
  unfold endZ
  rw [upd_ne (by omega), upd_ne (by omega), upd_ne (by omega), upd_ne (by omega)]
theorem nix_s (k : Nat) (h : k < 5) : nix (6 + k) = k := by
  unfold nix; rw [if_neg (by omega), if_pos (by omega)]; omega
abbrev cd1 (z : Nat → Int32) (g t k : Nat) (mn : Int32) : Prop := ¬ (nI g = nI t) ∧ z (14 + 16 * g) = 1 ∧ z (14 + 16 * t) = 1 ∧ ¬ (z (14 + 16 * t + 1) - valP (z (25 + 16 * g + k)) mn < -(z 0))
/-- the law's look at a motion -/
def lk4R (z : Nat → Int32) (n d : Nat) : Int32 := if sumF z 0 n - z (14 + 16 * d) = 0 then 0 else if sumF z 0 n - z (14 + 16 * d) < 2 * oneP (z 12) 4 then 1 else if 2 * oneP (z 13) 4 < sumF z 0 n - z (14 + 16 * d) then 0 else 2
def lk4Z (z : Nat → Int32) (n d : Nat) : Nat → Int32 := if sumF z 0 n - z (14 + 16 * d) = 0 then z else if sumF z 0 n - z (14 + 16 * d) < 2 * oneP (z 12) 4 then endZ (upd (upd (upd z (14 + 16 * d + 1) (z (14 + 16 * d + 1) + z 11)) (14 + 16 * d + 10) (z (14 + 16 * d + 10) + z 11)) 7 (z 7 + z 11)) else if 2 * oneP (z 13) 4 < sumF z 0 n - z (14 + 16 * d) then z else endZ z
section XL
variable {l : Launch} {D : va_G} {cI cC cM cB cJ : ClassId} {ad t h : Nat → Nat} {ah : Nat → Nat → Nat} {zh : Nat → Nat → Int32} {x na ma : Nat} {sg r : Nat → Int32} {sz : Int32} {z zl : Nat → Int32} {wr : va_W}
set_option maxHeartbeats 4000000 in
set_option maxRecDepth 100000 in
theorem c_L_can {nx kp kl : Nat} (a b k : Nat) (ha : a < 4) (hb4 : b < 4) (hk : k < 5) (mn : Int32) : zM l D (zT cI cC cM cB cJ) yL_can cL_can 6 (some .boolean) ({ frames := 1, cells := 0, slots := 0, locals := 24 } : Room) [.ref na, .ref ma, .int (nI a), .int (nI b), .int (nI k), .int mn] (xw0 cI cC cM cB ad z t sg sz r x h ah (nI nx) (nI kp) zh (lwS cI na ma zl kl wr)) (xw0 cI cC cM cB ad z t sg sz r x h ah (nI nx) (nI kp) zh (lwS cI na ma zl kl wr)) (some (.int (bI (cd1 zl a b k mn)))) 0 0 := by
  refine z_enter (by decide) (Nat.le_of_ble_eq_true rfl) ?_
  intro p e s m below meth c A S hr hlocks hnm hN hA hK hP hD hS ls hl
  obtain ⟨hx, hb, hml, hown, hts⟩ := id S
  have hl : lv_has ls 6 [(0, .ref na), (1, .ref ma), (2, .int (nI a)), (3, .int (nI b)), (4, .int (nI k)), (5, .int mn)] := hl
  have hP : va_P D vwCl (xw0 cI cC cM cB ad z t sg sz r x h ah (nI nx) (nI kp) zh (lwS cI na ma zl kl wr)) s.heap := hP
  have hD : va_D A (xw0 cI cC cM cB ad z t sg sz r x h ah (nI nx) (nI kp) zh (lwS cI na ma zl kl wr)) := hD
  refine lv_iload_n hx hb dL_can_0 rfl (lv_at hl 2 rfl) ?_
  refine lv_iload_n hx hb dL_can_1 rfl (lv_at hl 3 rfl) ?_
  refine lv_icmp_eq (tgt := 55) hx hb dL_can_2 (by decide) (fun c1 => ?_) (fun c1 => ?_)
  · skip
    refine lv_iconst (v := 0) hx hb dL_can_55 (by decide) ?_
    exact z_zret hx hb hr hlocks hP hD hK hS (rfl) (congrArg (fun q => some (Value.int q)) (bI_f (fun q_ => absurd c1 q_.1)).symm) rfl dL_can_56
  · skip
    refine lv_aload_n hx hb dL_can_5 rfl (lv_at hl 1 rfl) ?_
    refine lv_bipush (v := 16) hx hb dL_can_6 (by decide) ?_
    refine lv_iload_n hx hb dL_can_8 rfl (lv_at hl 2 rfl) ?_
    refine lv_imul hx hb dL_can_9 ?_
    refine z_top (v2 := .int (nI (16 * a))) (congrArg Value.int (pk_mul 16 a)) ?_
    refine va_iald hx hb hK hP (139 + (1)) 0 ((xw_r).trans (lw_1)) rfl (vp_in_nI (show 16 * a < 64 by omega) (by omega)) dL_can_10 ?_
    refine z_top (v2 := .int (zl (14 + 16 * a))) (congrArg Value.int ((lm_at rfl (show 16 * a < 64 by omega) (show 14 + (16 * a) = 14 + 16 * a by omega)).trans (rfl))) ?_
    refine lv_iconst (v := 1) hx hb dL_can_11 (by decide) ?_
    refine lv_icmp_ne (tgt := 55) hx hb dL_can_12 (by decide) (fun c2 => ?_) (fun c2 => ?_)
    · skip
      refine lv_iconst (v := 0) hx hb dL_can_55 (by decide) ?_
      exact z_zret hx hb hr hlocks hP hD hK hS (rfl) (congrArg (fun q => some (Value.int q)) (bI_f (fun q_ => absurd q_.2.1 c2)).symm) rfl dL_can_56
    · skip
      refine lv_aload_n hx hb dL_can_15 rfl (lv_at hl 1 rfl) ?_
      refine lv_bipush (v := 16) hx hb dL_can_16 (by decide) ?_
      refine lv_iload_n hx hb dL_can_18 rfl (lv_at hl 3 rfl) ?_
      refine lv_imul hx hb dL_can_19 ?_
      refine z_top (v2 := .int (nI (16 * b))) (congrArg Value.int (pk_mul 16 b)) ?_
      refine va_iald hx hb hK hP (139 + (1)) 0 ((xw_r).trans (lw_1)) rfl (vp_in_nI (show 16 * b < 64 by omega) (by omega)) dL_can_20 ?_
      refine z_top (v2 := .int (zl (14 + 16 * b))) (congrArg Value.int ((lm_at rfl (show 16 * b < 64 by omega) (show 14 + (16 * b) = 14 + 16 * b by omega)).trans (rfl))) ?_
      refine lv_iconst (v := 1) hx hb dL_can_21 (by decide) ?_
      refine lv_icmp_ne (tgt := 55) hx hb dL_can_22 (by decide) (fun c3 => ?_) (fun c3 => ?_)
      · skip
        refine lv_iconst (v := 0) hx hb dL_can_55 (by decide) ?_
        exact z_zret hx hb hr hlocks hP hD hK hS (rfl) (congrArg (fun q => some (Value.int q)) (bI_f (fun q_ => absurd q_.2.2.1 c3)).symm) rfl dL_can_56
      · skip
        refine lv_aload_n hx hb dL_can_25 rfl (lv_at hl 1 rfl) ?_
        refine lv_bipush (v := 16) hx hb dL_can_26 (by decide) ?_
        refine lv_iload_n hx hb dL_can_28 rfl (lv_at hl 3 rfl) ?_
        refine lv_imul hx hb dL_can_29 ?_
        refine z_top (v2 := .int (nI (16 * b))) (congrArg Value.int (pk_mul 16 b)) ?_
        refine lv_iconst (v := 1) hx hb dL_can_30 (by decide) ?_
        refine lv_iadd hx hb dL_can_31  ?_
        refine z_top (v2 := .int (nI (16 * b + 1))) (congrArg Value.int (nI_add (16 * b) 1)) ?_
        refine va_iald hx hb hK hP (139 + (1)) 0 ((xw_r).trans (lw_1)) rfl (vp_in_nI (show 16 * b + 1 < 64 by omega) (by omega)) dL_can_32 ?_
        refine z_top (v2 := .int (zl (14 + 16 * b + 1))) (congrArg Value.int ((lm_at rfl (show 16 * b + 1 < 64 by omega) (show 14 + (16 * b + 1) = 14 + 16 * b + 1 by omega)).trans (rfl))) ?_
        refine lv_aload_n hx hb dL_can_33 rfl (lv_at hl 1 rfl) ?_
        refine lv_iload_n hx hb dL_can_34 rfl (lv_at hl 2 rfl) ?_
        refine lv_iload hx hb dL_can_35 (lv_at hl 4 rfl) ?_
        refine lv_iload hx hb dL_can_37 (lv_at hl 5 rfl) ?_
        refine z_callS1 (rest := [.int (zl (14 + 16 * b + 1))]) S (c_L_value a k (by omega) (by omega) mn) qm_L_22 t_L_value ⟨Nat.le_of_ble_eq_true rfl, Nat.le_of_ble_eq_true rfl⟩ rfl rfl hN hK hP hD hS hA rfl hl.1 rfl (Nat.le_of_ble_eq_true rfl) dL_can_39 ⟨Nat.le_of_ble_eq_true rfl, Nat.le_of_ble_eq_true rfl⟩ (fun H locs hP hD hS => ?_)
        refine lv_isub hx hb dL_can_42  ?_
        refine lv_aload_n hx hb dL_can_43 rfl (lv_at hl 0 rfl) ?_
        refine lv_bipush (v := 6) hx hb dL_can_44 (by decide) ?_
        refine va_iald hx hb hK hP (139 + (0)) 0 ((xw_r).trans (lw_0)) rfl (vp_in_nI (show 6 < 15 by decide) (by omega)) dL_can_46 ?_
        refine z_top (v2 := .int (zl 0)) (congrArg Value.int ((nf_6 rfl).trans (rfl))) ?_
        refine lv_ineg hx hb dL_can_47 ?_
        refine lv_icmp_lt (tgt := 55) hx hb dL_can_48 (by decide) (fun c4 => ?_) (fun c4 => ?_)
        · skip
          refine lv_iconst (v := 0) hx hb dL_can_55 (by decide) ?_
          exact z_zret hx hb hr hlocks hP hD hK hS (rfl) (congrArg (fun q => some (Value.int q)) (bI_f (fun q_ => absurd c4 q_.2.2.2)).symm) rfl dL_can_56
        · skip
          refine lv_iconst (v := 1) hx hb dL_can_51 (by decide) ?_
          refine lv_goto (tgt := 56) hx hb dL_can_52 (by decide) ?_
          exact z_zret hx hb hr hlocks hP hD hK hS (rfl) (congrArg (fun q => some (Value.int q)) (bI_t ⟨c1, c2, c3, c4⟩).symm) rfl dL_can_56
set_option maxHeartbeats 4000000 in
set_option maxRecDepth 100000 in
theorem c_L_look {nx kp kl n : Nat} (hn : n ≤ 4) (hz : zl 5 = nI n) {d : Nat} (hd : d < 4) (hz2 : zl 10 = nI d) : zM l D (zT cI cC cM cB cJ) yL_look cL_look 3 (some .int) ({ frames := 1, cells := 0, slots := 0, locals := 23 } : Room) [.ref na, .ref ma] (xw0 cI cC cM cB ad z t sg sz r x h ah (nI nx) (nI kp) zh (lwS cI na ma zl kl wr)) (xw0 cI cC cM cB ad z t sg sz r x h ah (nI nx) (nI kp) zh (lwS cI na ma (lk4Z zl n d) kl wr)) (some (.int (lk4R zl n d))) 0 0 := by
  refine z_enter (by decide) (Nat.le_of_ble_eq_true rfl) ?_
  intro p e s m below meth c A S hr hlocks hnm hN hA hK hP hD hS ls hl
  obtain ⟨hx, hb, hml, hown, hts⟩ := id S
  have hl : lv_has ls 3 [(0, .ref na), (1, .ref ma)] := hl
  have hP : va_P D vwCl (xw0 cI cC cM cB ad z t sg sz r x h ah (nI nx) (nI kp) zh (lwS cI na ma zl kl wr)) s.heap := hP
  have hD : va_D A (xw0 cI cC cM cB ad z t sg sz r x h ah (nI nx) (nI kp) zh (lwS cI na ma zl kl wr)) := hD
  refine lv_aload_n hx hb dL_look_0 rfl (lv_at hl 0 rfl) ?_
  refine lv_aload_n hx hb dL_look_1 rfl (lv_at hl 1 rfl) ?_
  refine z_callS1 (rest := []) S (c_L_there (n := n) (by omega) (hz)) qm_L_8 t_L_there ⟨Nat.le_of_ble_eq_true rfl, Nat.le_of_ble_eq_true rfl⟩ rfl rfl hN hK hP hD hS hA rfl hl.1 rfl (Nat.le_of_ble_eq_true rfl) dL_look_2 ⟨Nat.le_of_ble_eq_true rfl, Nat.le_of_ble_eq_true rfl⟩ (fun H locs hP hD hS => ?_)
  refine lv_aload_n hx hb dL_look_5 rfl (lv_at hl 1 rfl) ?_
  refine lv_bipush (v := 16) hx hb dL_look_6 (by decide) ?_
  refine lv_aload_n hx hb dL_look_8 rfl (lv_at hl 0 rfl) ?_
  refine lv_bipush (v := 11) hx hb dL_look_9 (by decide) ?_
  refine va_iald hx hb hK hP (139 + (0)) 0 ((xw_r).trans (lw_0)) rfl (vp_in_nI (show 11 < 15 by decide) (by omega)) dL_look_11 ?_
  refine z_top (v2 := .int (nI d)) (congrArg Value.int ((nf_11 rfl).trans (hz2))) ?_
  refine lv_imul hx hb dL_look_12 ?_
  refine z_top (v2 := .int (nI (16 * d))) (congrArg Value.int (pk_mul 16 d)) ?_
  refine va_iald hx hb hK hP (139 + (1)) 0 ((xw_r).trans (lw_1)) rfl (vp_in_nI (show 16 * d < 64 by omega) (by omega)) dL_look_13 ?_
  refine z_top (v2 := .int (zl (14 + 16 * d))) (congrArg Value.int ((lm_at rfl (show 16 * d < 64 by omega) (show 14 + (16 * d) = 14 + 16 * d by omega)).trans (rfl))) ?_
  refine lv_isub hx hb dL_look_14  ?_
  refine lv_istore_n (lv' := [(2, .int ((sumF zl 0 n) - (zl (14 + 16 * d)))), (0, .ref na), (1, .ref ma)]) hx hb dL_look_15 rfl hl (by decide) rfl (fun ls hl => ?_)
  refine lv_iload_n hx hb dL_look_16 rfl (lv_at hl 0 rfl) ?_
  refine lv_if_ne (tgt := 22) hx hb dL_look_17 (by decide) (fun c1 => ?_) (fun c1 => ?_)
  · skip
    refine lv_iconst (v := 2) hx hb dL_look_22 (by decide) ?_
    refine lv_aload_n hx hb dL_look_23 rfl (lv_at hl 1 rfl) ?_
    refine lv_bipush (v := 13) hx hb dL_look_24 (by decide) ?_
    refine va_iald hx hb hK hP (139 + (0)) 0 ((xw_r).trans (lw_0)) rfl (vp_in_nI (show 13 < 15 by decide) (by omega)) dL_look_26 ?_
    refine z_top (v2 := .int (zl 12)) (congrArg Value.int ((nf_13 rfl).trans (rfl))) ?_
    refine z_callS1 (rest := [.int 2]) S (c_L_ones (zl 12)) qm_L_14 t_L_ones ⟨Nat.le_of_ble_eq_true rfl, Nat.le_of_ble_eq_true rfl⟩ rfl rfl hN hK hP hD hS hA rfl hl.1 rfl (Nat.le_of_ble_eq_true rfl) dL_look_27 ⟨Nat.le_of_ble_eq_true rfl, Nat.le_of_ble_eq_true rfl⟩ (fun H locs hP hD hS => ?_)
    refine lv_imul hx hb dL_look_30  ?_
    refine lv_iload_n hx hb dL_look_31 rfl (lv_at hl 0 rfl) ?_
    refine lv_icmp_le (tgt := 88) hx hb dL_look_32 (by decide) (fun c2 => ?_) (fun c2 => ?_)
    · have c2 := z_nlt c2
      refine lv_iconst (v := 2) hx hb dL_look_88 (by decide) ?_
      refine lv_aload_n hx hb dL_look_89 rfl (lv_at hl 1 rfl) ?_
      refine lv_bipush (v := 14) hx hb dL_look_90 (by decide) ?_
      refine va_iald hx hb hK hP (139 + (0)) 0 ((xw_r).trans (lw_0)) rfl (vp_in_nI (show 14 < 15 by decide) (by omega)) dL_look_92 ?_
      refine z_top (v2 := .int (zl 13)) (congrArg Value.int ((nf_14 rfl).trans (rfl))) ?_
      refine z_callS1 (rest := [.int 2]) S (c_L_ones (zl 13)) qm_L_14 t_L_ones ⟨Nat.le_of_ble_eq_true rfl, Nat.le_of_ble_eq_true rfl⟩ rfl rfl hN hK hP hD hS hA rfl hl.1 rfl (Nat.le_of_ble_eq_true rfl) dL_look_93 ⟨Nat.le_of_ble_eq_true rfl, Nat.le_of_ble_eq_true rfl⟩ (fun H locs hP hD hS => ?_)
      refine lv_imul hx hb dL_look_96  ?_
      refine lv_iload_n hx hb dL_look_97 rfl (lv_at hl 0 rfl) ?_
      refine lv_icmp_ge (tgt := 103) hx hb dL_look_98 (by decide) (fun c3 => ?_) (fun c3 => ?_)
      · have c3 := z_nlt c3
        refine lv_aload_n hx hb dL_look_103 rfl (lv_at hl 1 rfl) ?_
        refine z_callS0 (rest := []) S (c_L_end ) qm_L_18 t_L_end ⟨Nat.le_of_ble_eq_true rfl, Nat.le_of_ble_eq_true rfl⟩ rfl rfl hN hK hP hD hS hA rfl hl.1 rfl (Nat.le_of_ble_eq_true rfl) dL_look_104 ⟨Nat.le_of_ble_eq_true rfl, Nat.le_of_ble_eq_true rfl⟩ (fun H locs hP hD hS => ?_)
        refine lv_iconst (v := 2) hx hb dL_look_107 (by decide) ?_
        exact z_iret hx hb hr hlocks hP hD hK hS (congrArg (fun q_ => xw0 cI cC cM cB ad z t sg sz r x h ah (nI nx) (nI kp) zh (lwS cI na ma q_ kl wr)) (by unfold lk4Z; rw [if_neg c1, if_neg c2, if_neg c3])) (congrArg (fun q => some (Value.int q)) (by unfold lk4R; rw [if_neg c1, if_neg c2, if_neg c3])) dL_look_108
      · have c3 := z_lt c3
        refine lv_iconst (v := 0) hx hb dL_look_101 (by decide) ?_
        exact z_iret hx hb hr hlocks hP hD hK hS (congrArg (fun q_ => xw0 cI cC cM cB ad z t sg sz r x h ah (nI nx) (nI kp) zh (lwS cI na ma q_ kl wr)) (by unfold lk4Z; rw [if_neg c1, if_neg c2, if_pos c3])) (congrArg (fun q => some (Value.int q)) (by unfold lk4R; rw [if_neg c1, if_neg c2, if_pos c3])) dL_look_102
    · have c2 := z_lt c2
      refine lv_aload_n hx hb dL_look_35 rfl (lv_at hl 2 rfl) ?_
      refine lv_bipush (v := 16) hx hb dL_look_36 (by decide) ?_
      refine lv_aload_n hx hb dL_look_38 rfl (lv_at hl 1 rfl) ?_
      refine lv_bipush (v := 11) hx hb dL_look_39 (by decide) ?_
      refine va_iald hx hb hK hP (139 + (0)) 0 ((xw_r).trans (lw_0)) rfl (vp_in_nI (show 11 < 15 by decide) (by omega)) dL_look_41 ?_
      refine z_top (v2 := .int (nI d)) (congrArg Value.int ((nf_11 rfl).trans (hz2))) ?_
      refine lv_imul hx hb dL_look_42 ?_
      refine z_top (v2 := .int (nI (16 * d))) (congrArg Value.int (pk_mul 16 d)) ?_
      refine lv_iconst (v := 1) hx hb dL_look_43 (by decide) ?_
      refine lv_iadd hx hb dL_look_44  ?_
      refine z_top (v2 := .int (nI (16 * d + 1))) (congrArg Value.int (nI_add (16 * d) 1)) ?_
      refine lv_dup2_11 hx hb dL_look_45 rfl rfl ?_
      refine va_iald hx hb hK hP (139 + (1)) 0 ((xw_r).trans (lw_1)) rfl (vp_in_nI (show 16 * d + 1 < 64 by omega) (by omega)) dL_look_46 ?_
      refine z_top (v2 := .int (zl (14 + 16 * d + 1))) (congrArg Value.int ((lm_at rfl (show 16 * d + 1 < 64 by omega) (show 14 + (16 * d + 1) = 14 + 16 * d + 1 by omega)).trans (rfl))) ?_
      refine lv_aload_n hx hb dL_look_47 rfl (lv_at hl 1 rfl) ?_
      refine lv_bipush (v := 12) hx hb dL_look_48 (by decide) ?_
      refine va_iald hx hb hK hP (139 + (0)) 0 ((xw_r).trans (lw_0)) rfl (vp_in_nI (show 12 < 15 by decide) (by omega)) dL_look_50 ?_
      refine z_top (v2 := .int (zl 11)) (congrArg Value.int ((nf_12 rfl).trans (rfl))) ?_
      refine lv_iadd hx hb dL_look_51  ?_
      refine z_iast (ws2 := xw0 cI cC cM cB ad z t sg sz r x h ah (nI nx) (nI kp) zh (lwS cI na ma (upd zl (14 + 16 * d + 1) ((zl (14 + 16 * d + 1)) + (zl 11))) kl wr)) hx hb hK hP hD hS (139 + (1)) 0 ((xw_r).trans (lw_1)) rfl (vp_in_nI (show 16 * d + 1 < 64 by omega) (by omega)) dL_look_52 ((xw_rs).trans (congrArg (fun w_ => xw0 cI cC cM cB ad z t sg sz r x h ah (nI nx) (nI kp) zh w_) (z_ixw rfl (show 16 * d + 1 < 2 ^ 31 by omega) (fun q_ => (lwS cI na ma zl kl wr).set 1 (ma, .inl (cI, 64, .inl (upd (mfn zl) q_ ((zl (14 + 16 * d + 1)) + (zl 11)))))) (lw_wm (show 16 * d + 1 < 64 by omega) (show 14 + (16 * d + 1) = 14 + 16 * d + 1 by omega))))) (fun H locs hP hD hS => ?_)
      refine lv_aload_n hx hb dL_look_53 rfl (lv_at hl 2 rfl) ?_
      refine lv_bipush (v := 16) hx hb dL_look_54 (by decide) ?_
      refine lv_aload_n hx hb dL_look_56 rfl (lv_at hl 1 rfl) ?_
      refine lv_bipush (v := 11) hx hb dL_look_57 (by decide) ?_
      refine va_iald hx hb hK hP (139 + (0)) 0 ((xw_r).trans (lw_0)) rfl (vp_in_nI (show 11 < 15 by decide) (by omega)) dL_look_59 ?_
      refine z_top (v2 := .int (nI d)) (congrArg Value.int ((nf_11 rfl).trans ((upd_ne (by omega)).trans (hz2)))) ?_
      refine lv_imul hx hb dL_look_60 ?_
      refine z_top (v2 := .int (nI (16 * d))) (congrArg Value.int (pk_mul 16 d)) ?_
      refine lv_bipush (v := 10) hx hb dL_look_61 (by decide) ?_
      refine lv_iadd hx hb dL_look_63  ?_
      refine z_top (v2 := .int (nI (16 * d + 10))) (congrArg Value.int (nI_add (16 * d) 10)) ?_
      refine lv_dup2_11 hx hb dL_look_64 rfl rfl ?_
      refine va_iald hx hb hK hP (139 + (1)) 0 ((xw_r).trans (lw_1)) rfl (vp_in_nI (show 16 * d + 10 < 64 by omega) (by omega)) dL_look_65 ?_
      refine z_top (v2 := .int (zl (14 + 16 * d + 10))) (congrArg Value.int ((lm_at rfl (show 16 * d + 10 < 64 by omega) (show 14 + (16 * d + 10) = 14 + 16 * d + 10 by omega)).trans ((upd_ne (by omega)).trans (rfl)))) ?_
      refine lv_aload_n hx hb dL_look_66 rfl (lv_at hl 1 rfl) ?_
      refine lv_bipush (v := 12) hx hb dL_look_67 (by decide) ?_
      refine va_iald hx hb hK hP (139 + (0)) 0 ((xw_r).trans (lw_0)) rfl (vp_in_nI (show 12 < 15 by decide) (by omega)) dL_look_69 ?_
      refine z_top (v2 := .int (zl 11)) (congrArg Value.int ((nf_12 rfl).trans ((upd_ne (by omega)).trans (rfl)))) ?_
      refine lv_iadd hx hb dL_look_70  ?_
      refine z_iast (ws2 := xw0 cI cC cM cB ad z t sg sz r x h ah (nI nx) (nI kp) zh (lwS cI na ma (upd (upd zl (14 + 16 * d + 1) ((zl (14 + 16 * d + 1)) + (zl 11))) (14 + 16 * d + 10) ((zl (14 + 16 * d + 10)) + (zl 11))) kl wr)) hx hb hK hP hD hS (139 + (1)) 0 ((xw_r).trans (lw_1)) rfl (vp_in_nI (show 16 * d + 10 < 64 by omega) (by omega)) dL_look_71 ((xw_rs).trans (congrArg (fun w_ => xw0 cI cC cM cB ad z t sg sz r x h ah (nI nx) (nI kp) zh w_) (z_ixw rfl (show 16 * d + 10 < 2 ^ 31 by omega) (fun q_ => (lwS cI na ma (upd zl (14 + 16 * d + 1) ((zl (14 + 16 * d + 1)) + (zl 11))) kl wr).set 1 (ma, .inl (cI, 64, .inl (upd (mfn (upd zl (14 + 16 * d + 1) ((zl (14 + 16 * d + 1)) + (zl 11)))) q_ ((zl (14 + 16 * d + 10)) + (zl 11)))))) (lw_wm (show 16 * d + 10 < 64 by omega) (show 14 + (16 * d + 10) = 14 + 16 * d + 10 by omega))))) (fun H locs hP hD hS => ?_)
      refine lv_aload_n hx hb dL_look_72 rfl (lv_at hl 1 rfl) ?_
      refine lv_iconst (v := 2) hx hb dL_look_73 (by decide) ?_
      refine lv_dup2_11 hx hb dL_look_74 rfl rfl ?_
      refine va_iald hx hb hK hP (139 + (0)) 0 ((xw_r).trans (lw_0)) rfl (vp_in_nI (show 2 < 15 by decide) (by omega)) dL_look_75 ?_
      refine z_top (v2 := .int (zl 7)) (congrArg Value.int ((nf_2 rfl).trans ((upd_ne (by omega)).trans ((upd_ne (by omega)).trans (rfl))))) ?_
      refine lv_aload_n hx hb dL_look_76 rfl (lv_at hl 1 rfl) ?_
      refine lv_bipush (v := 12) hx hb dL_look_77 (by decide) ?_
      refine va_iald hx hb hK hP (139 + (0)) 0 ((xw_r).trans (lw_0)) rfl (vp_in_nI (show 12 < 15 by decide) (by omega)) dL_look_79 ?_
      refine z_top (v2 := .int (zl 11)) (congrArg Value.int ((nf_12 rfl).trans ((upd_ne (by omega)).trans ((upd_ne (by omega)).trans (rfl))))) ?_
      refine lv_iadd hx hb dL_look_80  ?_
      refine z_iast (ws2 := xw0 cI cC cM cB ad z t sg sz r x h ah (nI nx) (nI kp) zh (lwS cI na ma (upd (upd (upd zl (14 + 16 * d + 1) ((zl (14 + 16 * d + 1)) + (zl 11))) (14 + 16 * d + 10) ((zl (14 + 16 * d + 10)) + (zl 11))) 7 ((zl 7) + (zl 11))) kl wr)) hx hb hK hP hD hS (139 + (0)) 0 ((xw_r).trans (lw_0)) rfl (vp_in_nI (show 2 < 15 by decide) (by omega)) dL_look_81 ((xw_rs).trans (congrArg (fun w_ => xw0 cI cC cM cB ad z t sg sz r x h ah (nI nx) (nI kp) zh w_) (z_ixw (k := 2) rfl (by omega) (fun q_ => (lwS cI na ma (upd (upd zl (14 + 16 * d + 1) ((zl (14 + 16 * d + 1)) + (zl 11))) (14 + 16 * d + 10) ((zl (14 + 16 * d + 10)) + (zl 11))) kl wr).set 0 (na, .inl (cI, 15, .inl (upd (nfn (upd (upd zl (14 + 16 * d + 1) ((zl (14 + 16 * d + 1)) + (zl 11))) (14 + 16 * d + 10) ((zl (14 + 16 * d + 10)) + (zl 11))) kl) q_ ((zl 7) + (zl 11)))))) (lw_wx (by decide) (by decide) rfl)))) (fun H locs hP hD hS => ?_)
      refine lv_aload_n hx hb dL_look_82 rfl (lv_at hl 1 rfl) ?_
      refine z_callS0 (rest := []) S (c_L_end ) qm_L_18 t_L_end ⟨Nat.le_of_ble_eq_true rfl, Nat.le_of_ble_eq_true rfl⟩ rfl rfl hN hK hP hD hS hA rfl hl.1 rfl (Nat.le_of_ble_eq_true rfl) dL_look_83 ⟨Nat.le_of_ble_eq_true rfl, Nat.le_of_ble_eq_true rfl⟩ (fun H locs hP hD hS => ?_)
      refine lv_iconst (v := 1) hx hb dL_look_86 (by decide) ?_
      exact z_iret hx hb hr hlocks hP hD hK hS (congrArg (fun q_ => xw0 cI cC cM cB ad z t sg sz r x h ah (nI nx) (nI kp) zh (lwS cI na ma q_ kl wr)) (by unfold lk4Z; rw [if_neg c1, if_pos c2])) (congrArg (fun q => some (Value.int q)) (by unfold lk4R; rw [if_neg c1, if_pos c2])) dL_look_87
  · skip
    refine lv_iconst (v := 0) hx hb dL_look_20 (by decide) ?_
    exact z_iret hx hb hr hlocks hP hD hK hS (congrArg (fun q_ => xw0 cI cC cM cB ad z t sg sz r x h ah (nI nx) (nI kp) zh (lwS cI na ma q_ kl wr)) (by unfold lk4Z; rw [if_pos c1])) (congrArg (fun q => some (Value.int q)) (by unfold lk4R; rw [if_pos c1])) dL_look_21
end XL
