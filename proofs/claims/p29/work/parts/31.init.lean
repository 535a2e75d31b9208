/-! The two objects' constructors. -/
theorem x_perm (T S B X wr : va_W) : List.Perm (T ++ (S ++ (B ++ (X ++ wr)))) (B ++ (T ++ (X ++ (S ++ wr)))) :=
  (List.Perm.append_left T ((List.perm_append_comm_assoc S B (X ++ wr)).trans (List.Perm.append_left B (List.perm_append_comm_assoc S X wr)))).trans (List.perm_append_comm_assoc T B (X ++ (S ++ wr)))
theorem zI_up {j : Nat} (hj : j < 142) : upd (upd (upd (upd (upd (upd (fun _ => 0) 0 600) 1 120) 2 4) 3 10) 4 30) 10 (-1) j = zfn zI0 j := by
  rw [zfn_at hj]
  by_cases h10 : j = 10
  · subst h10; rfl
  by_cases h4 : j = 4
  · subst h4; rfl
  by_cases h3 : j = 3
  · subst h3; rfl
  by_cases h2 : j = 2
  · subst h2; rfl
  by_cases h1 : j = 1
  · subst h1; rfl
  by_cases h0 : j = 0
  · subst h0; rfl
  rw [upd_ne h10, upd_ne h4, upd_ne h3, upd_ne h2, upd_ne h1, upd_ne h0]
  unfold zI0
  rw [if_neg h0, if_neg h1, if_neg h2, if_neg h3, if_neg h4, if_neg h10]
section XI
variable {l : Launch} {D : va_G} {cI cC cM cB cJ : ClassId} {wr : va_W}
set_option maxHeartbeats 4000000 in
set_option maxRecDepth 100000 in
theorem c_X5_init (b : Nat) : zI l D (zT cI cC cM cB cJ) yX5_init cX5_init 1 ({ frames := 4, cells := 138, slots := 1239, locals := 82 } : Room) b ((b, .inr (5, [.null, .null, .null])) :: wr) (fun w2 => ∃ (ad t h : Nat → Nat) (ah : Nat → Nat → Nat), w2 = xw0 cI cC cM cB ad zI0 t (fun _ => 0) 0 (fun _ => 0) b h ah 0 0 (fun _ => zI0) wr) 138 1239 := by
  refine z_enterI (by decide) (Nat.le_of_ble_eq_true rfl) ?_
  intro p e s m below meth c A S hr hlocks hnm hF hN hA hK hP hD hS ls hl
  obtain ⟨hx, hb, hml, hown, hts⟩ := id S
  have hin : meth.name = "<init>" := hnm
  have hl : lv_has ls 1 [(0, .ref b)] := hl
  refine lv_aload_n hx hb dX5_init_0 rfl (lv_at hl 0 rfl) ?_
  refine W.objInit hx hb hown (hts _ qm_X5_1) (hts _ qi_objinit) (hts _ qc_objinit) rfl (hl.1.trans hml.symm) rfl dX5_init_1 (Nat.le_of_ble_eq_true rfl) (Nat.le_of_ble_eq_true rfl) ?_
  refine W.eq (g2 := F0 m 4 ls []) rfl ?_
  have hP : va_P D vwCl ((b, .inr (5, [.null, .null, .null])) :: wr) _ := hP
  have hD : va_D A ((b, .inr (5, [.null, .null, .null])) :: wr) := hD
  refine lv_aload_n hx hb dX5_init_4 rfl (lv_at hl 0 rfl) ?_
  refine va_new (ci := 0) (fs := bnk0) hx hb hts inTX0 tyX0 tyX0_ok hown (hts _ qk_X5_7) (hts _ qa_X0) (hts _ qn_X0) hK hP hD hS hA rfl bnk0_ok (Nat.le_of_ble_eq_true rfl) (Nat.le_of_ble_eq_true rfl) dX5_init_5 (fun y0 H hP hD hS => ?_)
  have hP := front_P hP
  have hD := front_D hD
  refine lv_dup hx hb dX5_init_8 rfl ?_
  refine z_callC S (c_X0_init y0) qm_X5_9 n_X0_init ⟨(Nat.le_of_ble_eq_true rfl), (Nat.le_of_ble_eq_true rfl)⟩ rfl rfl hF hN hK hP hD hS hA hl.1 rfl (Nat.le_of_ble_eq_true rfl) dX5_init_9 ⟨(Nat.le_of_ble_eq_true rfl), (Nat.le_of_ble_eq_true rfl)⟩ (fun w2 H locs hG hP9 hD9 hS => ?_)
  obtain ⟨ad, e0, rfl⟩ := hG
  subst e0
  have hP := hP9
  have hD := hD9
  refine va_putF (v := .ref (ad 0)) (ty := .object "RipeHours$Bank") hx hb hts inTX5 tyX5 tyX5_ok nmX5 hown hK hP hD hS 19 rfl rfl 0 (by decide) (hts _ qf_X5_10) (fun _ h9 => h9) rfl hin rfl (by decide +kernel) rfl rfl (Nat.le_of_ble_eq_true rfl) dX5_init_12 (fun H locs hP hD hS => ?_)
  have hP : va_P D vwCl (bkW cI cM ad zI0 ((b, .inr (5, [.ref (ad 0), .null, .null])) :: wr)) _ := hP
  have hD : va_D A (bkW cI cM ad zI0 ((b, .inr (5, [.ref (ad 0), .null, .null])) :: wr)) := hD
  refine lv_aload_n hx hb dX5_init_15 rfl (lv_at hl 0 rfl) ?_
  refine va_new (ci := 3) (fs := [.null, .int 0, .int 0]) hx hb hts inTX3 tyX3 tyX3_ok hown (hts _ qk_X5_16) (hts _ qa_X3) (hts _ qn_X3) hK hP hD hS hA rfl (fun j hj => by rcases (show j = 0 ∨ j = 1 ∨ j = 2 by omega) with rfl | rfl | rfl <;> rfl) (Nat.le_of_ble_eq_true rfl) (Nat.le_of_ble_eq_true rfl) dX5_init_16 (fun y1 H hP hD hS => ?_)
  have hP := front_P hP
  have hD := front_D hD
  refine lv_dup hx hb dX5_init_19 rfl ?_
  refine z_callC S (c_X3_init y1) qm_X5_18 n_X3_init ⟨(Nat.le_of_ble_eq_true rfl), (Nat.le_of_ble_eq_true rfl)⟩ rfl rfl hF hN hK hP hD hS hA hl.1 rfl (Nat.le_of_ble_eq_true rfl) dX5_init_20 ⟨(Nat.le_of_ble_eq_true rfl), (Nat.le_of_ble_eq_true rfl)⟩ (fun w2 H locs hG hP9 hD9 hS => ?_)
  obtain ⟨h, ah, e1, rfl⟩ := hG
  subst e1
  have hP := hP9
  have hD := hD9
  refine va_putF (v := .ref (h 0)) (ty := .object "RipeHours$History") hx hb hts inTX5 tyX5 tyX5_ok nmX5 hown hK hP hD hS 135 rfl rfl 1 (by decide) (hts _ qf_X5_19) (fun _ h9 => h9) rfl hin rfl (by decide +kernel) rfl rfl (Nat.le_of_ble_eq_true rfl) dX5_init_23 (fun H locs hP hD hS => ?_)
  have hP : va_P D vwCl (hsW cB h ah 0 0 (hbW cI cM ah (fun _ => zI0) (bkW cI cM ad zI0 ((b, .inr (5, [.ref (ad 0), .ref (h 0), .null])) :: wr)))) _ := hP
  have hD : va_D A (hsW cB h ah 0 0 (hbW cI cM ah (fun _ => zI0) (bkW cI cM ad zI0 ((b, .inr (5, [.ref (ad 0), .ref (h 0), .null])) :: wr)))) := hD
  refine lv_aload_n hx hb dX5_init_26 rfl (lv_at hl 0 rfl) ?_
  refine va_new (ci := 2) (fs := [.null, .null, .int 0]) hx hb hts inTX2 tyX2 tyX2_ok hown (hts _ qk_X5_23) (hts _ qa_X2) (hts _ qn_X2) hK hP hD hS hA rfl (fun j hj => by rcases (show j = 0 ∨ j = 1 ∨ j = 2 by omega) with rfl | rfl | rfl <;> rfl) (Nat.le_of_ble_eq_true rfl) (Nat.le_of_ble_eq_true rfl) dX5_init_27 (fun y2 H hP hD hS => ?_)
  have hP := front_P hP
  have hD := front_D hD
  refine lv_dup hx hb dX5_init_30 rfl ?_
  refine z_callC S (c_X2_init y2) qm_X5_25 n_X2_init ⟨(Nat.le_of_ble_eq_true rfl), (Nat.le_of_ble_eq_true rfl)⟩ rfl rfl hF hN hK hP hD hS hA hl.1 rfl (Nat.le_of_ble_eq_true rfl) dX5_init_31 ⟨(Nat.le_of_ble_eq_true rfl), (Nat.le_of_ble_eq_true rfl)⟩ (fun w2 H locs hG hP9 hD9 hS => ?_)
  obtain ⟨t, e2, rfl⟩ := hG
  subst e2
  have hP := hP9
  have hD := hD9
  refine va_putF (v := .ref (t 0)) (ty := .object "RipeHours$DealText") hx hb hts inTX5 tyX5 tyX5_ok nmX5 hown hK hP hD hS 138 rfl rfl 2 (by decide) (hts _ qf_X5_26) (fun _ h9 => h9) rfl hin rfl (by decide +kernel) rfl rfl (Nat.le_of_ble_eq_true rfl) dX5_init_34 (fun H locs hP hD hS => ?_)
  have hP : va_P D vwCl (txW cC t (fun _ => 0) 0 (fun _ => 0) (hsW cB h ah 0 0 (hbW cI cM ah (fun _ => zI0) (bkW cI cM ad zI0 ((b, .inr (5, [.ref (ad 0), .ref (h 0), .ref (t 0)])) :: wr))))) _ := hP
  have hD : va_D A (txW cC t (fun _ => 0) 0 (fun _ => 0) (hsW cB h ah 0 0 (hbW cI cM ah (fun _ => zI0) (bkW cI cM ad zI0 ((b, .inr (5, [.ref (ad 0), .ref (h 0), .ref (t 0)])) :: wr))))) := hD
  have hP := va_P_perm (x_perm (txW cC t (fun _ => 0) 0 (fun _ => 0) []) (hsW cB h ah 0 0 (hbW cI cM ah (fun _ => zI0) [])) (bkW cI cM ad zI0 []) (xoW b ad h t []) wr) hP
  have hD := va_D_perm (x_perm (txW cC t (fun _ => 0) 0 (fun _ => 0) []) (hsW cB h ah 0 0 (hbW cI cM ah (fun _ => zI0) [])) (bkW cI cM ad zI0 []) (xoW b ad h t []) wr) hD
  exact z_vretI hx hb hr hlocks hP hD hK hS ⟨ad, t, h, ah, rfl⟩ dX5_init_37
end XI
