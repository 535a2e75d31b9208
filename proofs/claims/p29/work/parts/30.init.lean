/-! The history's constructor, unrolled. -/
theorem hs_perm (B0 B1 B2 B3 B4 B5 X Y wr : va_W) : List.Perm (B5 ++ (B4 ++ (B3 ++ (B2 ++ (B1 ++ (B0 ++ (X ++ (Y ++ wr)))))))) (Y ++ (X ++ (B0 ++ (B1 ++ (B2 ++ (B3 ++ (B4 ++ (B5 ++ wr)))))))) := by
  have h : List.Perm [B5, B4, B3, B2, B1, B0, X, Y] [Y, X, B0, B1, B2, B3, B4, B5] := (List.reverse_perm [B5, B4, B3, B2, B1, B0, X, Y]).symm
  have h2 := (List.Perm.flatten h).append_right wr
  simpa [List.append_assoc] using h2
theorem bnk0_ok : ∀ j, j < 9 → defaultValue (tyX0 j) = vp_V bnk0 j := fun j hj => by
  rcases (show j = 0 ∨ j = 1 ∨ j = 2 ∨ j = 3 ∨ j = 4 ∨ j = 5 ∨ j = 6 ∨ j = 7 ∨ j = 8 by omega) with rfl | rfl | rfl | rfl | rfl | rfl | rfl | rfl | rfl <;> rfl
section XI
variable {l : Launch} {D : va_G} {cI cC cM cB cJ : ClassId} {wr : va_W}
set_option maxHeartbeats 4000000 in
set_option maxRecDepth 100000 in
theorem c_X3_init (b : Nat) : zI l D (zT cI cC cM cB cJ) yX3_init cX3_init 2 ({ frames := 3, cells := 115, slots := 1002, locals := 61 } : Room) b ((b, .inr (3, [.null, .int 0, .int 0])) :: wr) (fun w2 => ∃ (h : Nat → Nat) (ah : Nat → Nat → Nat), h 0 = b ∧ w2 = hsW cB h ah 0 0 (hbW cI cM ah (fun _ => zI0) wr)) 115 1002 := by
  refine z_enterI (by decide) (Nat.le_of_ble_eq_true rfl) ?_
  intro p e s m below meth c A S hr hlocks hnm hF hN hA hK hP hD hS ls hl
  obtain ⟨hx, hb, hml, hown, hts⟩ := id S
  have hin : meth.name = "<init>" := hnm
  have hl : lv_has ls 2 [(0, .ref b)] := hl
  refine lv_aload_n hx hb dX3_init_0 rfl (lv_at hl 0 rfl) ?_
  refine W.objInit hx hb hown (hts _ qm_X3_3) (hts _ qi_objinit) (hts _ qc_objinit) rfl (hl.1.trans hml.symm) rfl dX3_init_1 (Nat.le_of_ble_eq_true rfl) (Nat.le_of_ble_eq_true rfl) ?_
  refine W.eq (g2 := F0 m 4 ls []) rfl ?_
  refine lv_aload_n hx hb dX3_init_4 rfl (lv_at hl 0 rfl) ?_
  refine lv_bipush (v := 6) hx hb dX3_init_5 (by decide) ?_
  refine va_newq (N' := 6) hx hb hown (hts _ qk_X3_9) hF.1.2 hK hP hD hS hA (by decide) (by decide) (by decide) (Nat.le_of_ble_eq_true rfl) (Nat.le_of_ble_eq_true rfl) dX3_init_7 (fun hm cA H hK2 hP hD hS => ?_)
  have eA : cA = cB := ra_uniq (hK2.2 4 (cA, .object "RipeHours$Bank") rfl).2 (hK.2 3 _ rfl).2
  rw [eA] at hP hD
  have hP := front_P hP
  have hD := front_D hD
  refine va_putF (v := .ref hm) (ty := .array (.object "RipeHours$Bank")) hx hb hts inTX3 tyX3 tyX3_ok nmX3 hown hK hP hD hS 1 rfl rfl 0 (by decide) (hts _ qf_X3_11) (fun _ h9 => h9) rfl hin rfl (by decide +kernel) rfl rfl (Nat.le_of_ble_eq_true rfl) dX3_init_10 (fun H locs hP hD hS => ?_)
  have hP : va_P D vwCl ((hm, .inl (cB, 6, .inr (.inr (.inr (.inr (fun _ => none)))))) :: (b, .inr (3, [.ref hm, .int 0, .int 0])) :: wr) _ := hP
  have hD : va_D A ((hm, .inl (cB, 6, .inr (.inr (.inr (.inr (fun _ => none)))))) :: (b, .inr (3, [.ref hm, .int 0, .int 0])) :: wr) := hD
  refine lv_iconst (v := 0) hx hb dX3_init_13 (by decide) ?_
  refine lv_istore_n (lv' := [(1, .int 0), (0, .ref b)]) hx hb dX3_init_14 rfl hl (by decide) rfl (fun ls hl => ?_)
  refine lv_iload_n hx hb dX3_init_15 rfl (lv_at hl 0 rfl) ?_
  refine lv_bipush (v := 6) hx hb dX3_init_16 (by decide) ?_
  refine lv_icmp_ge (tgt := 40) hx hb dX3_init_18 (by decide) (fun c1 => absurd c1 (by decide)) (fun _ => ?_)
  refine lv_aload_n hx hb dX3_init_21 rfl (lv_at hl 1 rfl) ?_
  refine va_get (v := .ref hm) hx hb hts inTX3 hown hK hP 1 rfl rfl 0 (by decide) (hts _ qf_X3_11) (fun _ h9 => h9) rfl dX3_init_22 ?_
  refine lv_iload_n hx hb dX3_init_25 rfl (lv_at hl 0 rfl) ?_
  refine va_new (ci := 0) (fs := bnk0) hx hb hts inTX0 tyX0 tyX0_ok hown (hts _ qk_X3_9) (hts _ qa_X0) (hts _ qn_X0) hK hP hD hS hA rfl bnk0_ok (Nat.le_of_ble_eq_true rfl) (Nat.le_of_ble_eq_true rfl) dX3_init_26 (fun b0 H hP hD hS => ?_)
  have hP := front_P hP
  have hD := front_D hD
  refine lv_dup hx hb dX3_init_29 rfl ?_
  refine z_callC S (c_X0_init b0) qm_X3_17 n_X0_init ⟨(Nat.le_of_ble_eq_true rfl), (Nat.le_of_ble_eq_true rfl)⟩ rfl rfl hF hN hK hP hD hS hA hl.1 rfl (Nat.le_of_ble_eq_true rfl) dX3_init_30 ⟨(Nat.le_of_ble_eq_true rfl), (Nat.le_of_ble_eq_true rfl)⟩ (fun w2 H locs hG hP9 hD9 hS => ?_)
  obtain ⟨a0, ea0, rfl⟩ := hG
  subst ea0
  have hP := hP9
  have hD := hD9
  refine va_astq hx hb hK hP hD hS 19 3 0 0 rfl rfl rfl rfl (show ¬ ((0 : Int32) < 0 ∨ 6 ≤ (0 : Int32).toNatClampNeg) by decide) dX3_init_33 (fun H locs hP hD hS => ?_)
  have hP : va_P D vwCl (bkW cI cM a0 zI0 ((hm, .inl (cB, 6, .inr (.inr (.inr (.inr (va_up (fun _ => none) 0 (some (a0 0)))))))) :: (b, .inr (3, [.ref hm, .int 0, .int 0])) :: wr)) _ := hP
  have hD : va_D A (bkW cI cM a0 zI0 ((hm, .inl (cB, 6, .inr (.inr (.inr (.inr (va_up (fun _ => none) 0 (some (a0 0)))))))) :: (b, .inr (3, [.ref hm, .int 0, .int 0])) :: wr)) := hD
  refine lv_iinc (v := 1) (lv' := [(1, .int 1), (0, .ref b)]) hx hb dX3_init_34 hl (k := 0) rfl (by decide) (by decide) rfl (fun ls hl => ?_)
  refine lv_goto (tgt := 15) hx hb dX3_init_37 (by decide) ?_
  refine lv_iload_n hx hb dX3_init_15 rfl (lv_at hl 0 rfl) ?_
  refine lv_bipush (v := 6) hx hb dX3_init_16 (by decide) ?_
  refine lv_icmp_ge (tgt := 40) hx hb dX3_init_18 (by decide) (fun c1 => absurd c1 (by decide)) (fun _ => ?_)
  refine lv_aload_n hx hb dX3_init_21 rfl (lv_at hl 1 rfl) ?_
  refine va_get (v := .ref hm) hx hb hts inTX3 hown hK hP 20 rfl rfl 0 (by decide) (hts _ qf_X3_11) (fun _ h9 => h9) rfl dX3_init_22 ?_
  refine lv_iload_n hx hb dX3_init_25 rfl (lv_at hl 0 rfl) ?_
  refine va_new (ci := 0) (fs := bnk0) hx hb hts inTX0 tyX0 tyX0_ok hown (hts _ qk_X3_9) (hts _ qa_X0) (hts _ qn_X0) hK hP hD hS hA rfl bnk0_ok (Nat.le_of_ble_eq_true rfl) (Nat.le_of_ble_eq_true rfl) dX3_init_26 (fun b1 H hP hD hS => ?_)
  have hP := front_P hP
  have hD := front_D hD
  refine lv_dup hx hb dX3_init_29 rfl ?_
  refine z_callC S (c_X0_init b1) qm_X3_17 n_X0_init ⟨(Nat.le_of_ble_eq_true rfl), (Nat.le_of_ble_eq_true rfl)⟩ rfl rfl hF hN hK hP hD hS hA hl.1 rfl (Nat.le_of_ble_eq_true rfl) dX3_init_30 ⟨(Nat.le_of_ble_eq_true rfl), (Nat.le_of_ble_eq_true rfl)⟩ (fun w2 H locs hG hP9 hD9 hS => ?_)
  obtain ⟨a1, ea1, rfl⟩ := hG
  subst ea1
  have hP := hP9
  have hD := hD9
  refine va_astq hx hb hK hP hD hS 38 3 0 0 rfl rfl rfl rfl (show ¬ ((1 : Int32) < 0 ∨ 6 ≤ (1 : Int32).toNatClampNeg) by decide) dX3_init_33 (fun H locs hP hD hS => ?_)
  have hP : va_P D vwCl (bkW cI cM a1 zI0 (bkW cI cM a0 zI0 ((hm, .inl (cB, 6, .inr (.inr (.inr (.inr (va_up (va_up (fun _ => none) 0 (some (a0 0))) 1 (some (a1 0)))))))) :: (b, .inr (3, [.ref hm, .int 0, .int 0])) :: wr))) _ := hP
  have hD : va_D A (bkW cI cM a1 zI0 (bkW cI cM a0 zI0 ((hm, .inl (cB, 6, .inr (.inr (.inr (.inr (va_up (va_up (fun _ => none) 0 (some (a0 0))) 1 (some (a1 0)))))))) :: (b, .inr (3, [.ref hm, .int 0, .int 0])) :: wr))) := hD
  refine lv_iinc (v := 2) (lv' := [(1, .int 2), (0, .ref b)]) hx hb dX3_init_34 hl (k := 0) rfl (by decide) (by decide) rfl (fun ls hl => ?_)
  refine lv_goto (tgt := 15) hx hb dX3_init_37 (by decide) ?_
  refine lv_iload_n hx hb dX3_init_15 rfl (lv_at hl 0 rfl) ?_
  refine lv_bipush (v := 6) hx hb dX3_init_16 (by decide) ?_
  refine lv_icmp_ge (tgt := 40) hx hb dX3_init_18 (by decide) (fun c1 => absurd c1 (by decide)) (fun _ => ?_)
  refine lv_aload_n hx hb dX3_init_21 rfl (lv_at hl 1 rfl) ?_
  refine va_get (v := .ref hm) hx hb hts inTX3 hown hK hP 39 rfl rfl 0 (by decide) (hts _ qf_X3_11) (fun _ h9 => h9) rfl dX3_init_22 ?_
  refine lv_iload_n hx hb dX3_init_25 rfl (lv_at hl 0 rfl) ?_
  refine va_new (ci := 0) (fs := bnk0) hx hb hts inTX0 tyX0 tyX0_ok hown (hts _ qk_X3_9) (hts _ qa_X0) (hts _ qn_X0) hK hP hD hS hA rfl bnk0_ok (Nat.le_of_ble_eq_true rfl) (Nat.le_of_ble_eq_true rfl) dX3_init_26 (fun b2 H hP hD hS => ?_)
  have hP := front_P hP
  have hD := front_D hD
  refine lv_dup hx hb dX3_init_29 rfl ?_
  refine z_callC S (c_X0_init b2) qm_X3_17 n_X0_init ⟨(Nat.le_of_ble_eq_true rfl), (Nat.le_of_ble_eq_true rfl)⟩ rfl rfl hF hN hK hP hD hS hA hl.1 rfl (Nat.le_of_ble_eq_true rfl) dX3_init_30 ⟨(Nat.le_of_ble_eq_true rfl), (Nat.le_of_ble_eq_true rfl)⟩ (fun w2 H locs hG hP9 hD9 hS => ?_)
  obtain ⟨a2, ea2, rfl⟩ := hG
  subst ea2
  have hP := hP9
  have hD := hD9
  refine va_astq hx hb hK hP hD hS 57 3 0 0 rfl rfl rfl rfl (show ¬ ((2 : Int32) < 0 ∨ 6 ≤ (2 : Int32).toNatClampNeg) by decide) dX3_init_33 (fun H locs hP hD hS => ?_)
  have hP : va_P D vwCl (bkW cI cM a2 zI0 (bkW cI cM a1 zI0 (bkW cI cM a0 zI0 ((hm, .inl (cB, 6, .inr (.inr (.inr (.inr (va_up (va_up (va_up (fun _ => none) 0 (some (a0 0))) 1 (some (a1 0))) 2 (some (a2 0)))))))) :: (b, .inr (3, [.ref hm, .int 0, .int 0])) :: wr)))) _ := hP
  have hD : va_D A (bkW cI cM a2 zI0 (bkW cI cM a1 zI0 (bkW cI cM a0 zI0 ((hm, .inl (cB, 6, .inr (.inr (.inr (.inr (va_up (va_up (va_up (fun _ => none) 0 (some (a0 0))) 1 (some (a1 0))) 2 (some (a2 0)))))))) :: (b, .inr (3, [.ref hm, .int 0, .int 0])) :: wr)))) := hD
  refine lv_iinc (v := 3) (lv' := [(1, .int 3), (0, .ref b)]) hx hb dX3_init_34 hl (k := 0) rfl (by decide) (by decide) rfl (fun ls hl => ?_)
  refine lv_goto (tgt := 15) hx hb dX3_init_37 (by decide) ?_
  refine lv_iload_n hx hb dX3_init_15 rfl (lv_at hl 0 rfl) ?_
  refine lv_bipush (v := 6) hx hb dX3_init_16 (by decide) ?_
  refine lv_icmp_ge (tgt := 40) hx hb dX3_init_18 (by decide) (fun c1 => absurd c1 (by decide)) (fun _ => ?_)
  refine lv_aload_n hx hb dX3_init_21 rfl (lv_at hl 1 rfl) ?_
  refine va_get (v := .ref hm) hx hb hts inTX3 hown hK hP 58 rfl rfl 0 (by decide) (hts _ qf_X3_11) (fun _ h9 => h9) rfl dX3_init_22 ?_
  refine lv_iload_n hx hb dX3_init_25 rfl (lv_at hl 0 rfl) ?_
  refine va_new (ci := 0) (fs := bnk0) hx hb hts inTX0 tyX0 tyX0_ok hown (hts _ qk_X3_9) (hts _ qa_X0) (hts _ qn_X0) hK hP hD hS hA rfl bnk0_ok (Nat.le_of_ble_eq_true rfl) (Nat.le_of_ble_eq_true rfl) dX3_init_26 (fun b3 H hP hD hS => ?_)
  have hP := front_P hP
  have hD := front_D hD
  refine lv_dup hx hb dX3_init_29 rfl ?_
  refine z_callC S (c_X0_init b3) qm_X3_17 n_X0_init ⟨(Nat.le_of_ble_eq_true rfl), (Nat.le_of_ble_eq_true rfl)⟩ rfl rfl hF hN hK hP hD hS hA hl.1 rfl (Nat.le_of_ble_eq_true rfl) dX3_init_30 ⟨(Nat.le_of_ble_eq_true rfl), (Nat.le_of_ble_eq_true rfl)⟩ (fun w2 H locs hG hP9 hD9 hS => ?_)
  obtain ⟨a3, ea3, rfl⟩ := hG
  subst ea3
  have hP := hP9
  have hD := hD9
  refine va_astq hx hb hK hP hD hS 76 3 0 0 rfl rfl rfl rfl (show ¬ ((3 : Int32) < 0 ∨ 6 ≤ (3 : Int32).toNatClampNeg) by decide) dX3_init_33 (fun H locs hP hD hS => ?_)
  have hP : va_P D vwCl (bkW cI cM a3 zI0 (bkW cI cM a2 zI0 (bkW cI cM a1 zI0 (bkW cI cM a0 zI0 ((hm, .inl (cB, 6, .inr (.inr (.inr (.inr (va_up (va_up (va_up (va_up (fun _ => none) 0 (some (a0 0))) 1 (some (a1 0))) 2 (some (a2 0))) 3 (some (a3 0)))))))) :: (b, .inr (3, [.ref hm, .int 0, .int 0])) :: wr))))) _ := hP
  have hD : va_D A (bkW cI cM a3 zI0 (bkW cI cM a2 zI0 (bkW cI cM a1 zI0 (bkW cI cM a0 zI0 ((hm, .inl (cB, 6, .inr (.inr (.inr (.inr (va_up (va_up (va_up (va_up (fun _ => none) 0 (some (a0 0))) 1 (some (a1 0))) 2 (some (a2 0))) 3 (some (a3 0)))))))) :: (b, .inr (3, [.ref hm, .int 0, .int 0])) :: wr))))) := hD
  refine lv_iinc (v := 4) (lv' := [(1, .int 4), (0, .ref b)]) hx hb dX3_init_34 hl (k := 0) rfl (by decide) (by decide) rfl (fun ls hl => ?_)
  refine lv_goto (tgt := 15) hx hb dX3_init_37 (by decide) ?_
  refine lv_iload_n hx hb dX3_init_15 rfl (lv_at hl 0 rfl) ?_
  refine lv_bipush (v := 6) hx hb dX3_init_16 (by decide) ?_
  refine lv_icmp_ge (tgt := 40) hx hb dX3_init_18 (by decide) (fun c1 => absurd c1 (by decide)) (fun _ => ?_)
  refine lv_aload_n hx hb dX3_init_21 rfl (lv_at hl 1 rfl) ?_
  refine va_get (v := .ref hm) hx hb hts inTX3 hown hK hP 77 rfl rfl 0 (by decide) (hts _ qf_X3_11) (fun _ h9 => h9) rfl dX3_init_22 ?_
  refine lv_iload_n hx hb dX3_init_25 rfl (lv_at hl 0 rfl) ?_
  refine va_new (ci := 0) (fs := bnk0) hx hb hts inTX0 tyX0 tyX0_ok hown (hts _ qk_X3_9) (hts _ qa_X0) (hts _ qn_X0) hK hP hD hS hA rfl bnk0_ok (Nat.le_of_ble_eq_true rfl) (Nat.le_of_ble_eq_true rfl) dX3_init_26 (fun b4 H hP hD hS => ?_)
  have hP := front_P hP
  have hD := front_D hD
  refine lv_dup hx hb dX3_init_29 rfl ?_
  refine z_callC S (c_X0_init b4) qm_X3_17 n_X0_init ⟨(Nat.le_of_ble_eq_true rfl), (Nat.le_of_ble_eq_true rfl)⟩ rfl rfl hF hN hK hP hD hS hA hl.1 rfl (Nat.le_of_ble_eq_true rfl) dX3_init_30 ⟨(Nat.le_of_ble_eq_true rfl), (Nat.le_of_ble_eq_true rfl)⟩ (fun w2 H locs hG hP9 hD9 hS => ?_)
  obtain ⟨a4, ea4, rfl⟩ := hG
  subst ea4
  have hP := hP9
  have hD := hD9
  refine va_astq hx hb hK hP hD hS 95 3 0 0 rfl rfl rfl rfl (show ¬ ((4 : Int32) < 0 ∨ 6 ≤ (4 : Int32).toNatClampNeg) by decide) dX3_init_33 (fun H locs hP hD hS => ?_)
  have hP : va_P D vwCl (bkW cI cM a4 zI0 (bkW cI cM a3 zI0 (bkW cI cM a2 zI0 (bkW cI cM a1 zI0 (bkW cI cM a0 zI0 ((hm, .inl (cB, 6, .inr (.inr (.inr (.inr (va_up (va_up (va_up (va_up (va_up (fun _ => none) 0 (some (a0 0))) 1 (some (a1 0))) 2 (some (a2 0))) 3 (some (a3 0))) 4 (some (a4 0)))))))) :: (b, .inr (3, [.ref hm, .int 0, .int 0])) :: wr)))))) _ := hP
  have hD : va_D A (bkW cI cM a4 zI0 (bkW cI cM a3 zI0 (bkW cI cM a2 zI0 (bkW cI cM a1 zI0 (bkW cI cM a0 zI0 ((hm, .inl (cB, 6, .inr (.inr (.inr (.inr (va_up (va_up (va_up (va_up (va_up (fun _ => none) 0 (some (a0 0))) 1 (some (a1 0))) 2 (some (a2 0))) 3 (some (a3 0))) 4 (some (a4 0)))))))) :: (b, .inr (3, [.ref hm, .int 0, .int 0])) :: wr)))))) := hD
  refine lv_iinc (v := 5) (lv' := [(1, .int 5), (0, .ref b)]) hx hb dX3_init_34 hl (k := 0) rfl (by decide) (by decide) rfl (fun ls hl => ?_)
  refine lv_goto (tgt := 15) hx hb dX3_init_37 (by decide) ?_
  refine lv_iload_n hx hb dX3_init_15 rfl (lv_at hl 0 rfl) ?_
  refine lv_bipush (v := 6) hx hb dX3_init_16 (by decide) ?_
  refine lv_icmp_ge (tgt := 40) hx hb dX3_init_18 (by decide) (fun c1 => absurd c1 (by decide)) (fun _ => ?_)
  refine lv_aload_n hx hb dX3_init_21 rfl (lv_at hl 1 rfl) ?_
  refine va_get (v := .ref hm) hx hb hts inTX3 hown hK hP 96 rfl rfl 0 (by decide) (hts _ qf_X3_11) (fun _ h9 => h9) rfl dX3_init_22 ?_
  refine lv_iload_n hx hb dX3_init_25 rfl (lv_at hl 0 rfl) ?_
  refine va_new (ci := 0) (fs := bnk0) hx hb hts inTX0 tyX0 tyX0_ok hown (hts _ qk_X3_9) (hts _ qa_X0) (hts _ qn_X0) hK hP hD hS hA rfl bnk0_ok (Nat.le_of_ble_eq_true rfl) (Nat.le_of_ble_eq_true rfl) dX3_init_26 (fun b5 H hP hD hS => ?_)
  have hP := front_P hP
  have hD := front_D hD
  refine lv_dup hx hb dX3_init_29 rfl ?_
  refine z_callC S (c_X0_init b5) qm_X3_17 n_X0_init ⟨(Nat.le_of_ble_eq_true rfl), (Nat.le_of_ble_eq_true rfl)⟩ rfl rfl hF hN hK hP hD hS hA hl.1 rfl (Nat.le_of_ble_eq_true rfl) dX3_init_30 ⟨(Nat.le_of_ble_eq_true rfl), (Nat.le_of_ble_eq_true rfl)⟩ (fun w2 H locs hG hP9 hD9 hS => ?_)
  obtain ⟨a5, ea5, rfl⟩ := hG
  subst ea5
  have hP := hP9
  have hD := hD9
  refine va_astq hx hb hK hP hD hS 114 3 0 0 rfl rfl rfl rfl (show ¬ ((5 : Int32) < 0 ∨ 6 ≤ (5 : Int32).toNatClampNeg) by decide) dX3_init_33 (fun H locs hP hD hS => ?_)
  have hP : va_P D vwCl (bkW cI cM a5 zI0 (bkW cI cM a4 zI0 (bkW cI cM a3 zI0 (bkW cI cM a2 zI0 (bkW cI cM a1 zI0 (bkW cI cM a0 zI0 ((hm, .inl (cB, 6, .inr (.inr (.inr (.inr (va_up (va_up (va_up (va_up (va_up (va_up (fun _ => none) 0 (some (a0 0))) 1 (some (a1 0))) 2 (some (a2 0))) 3 (some (a3 0))) 4 (some (a4 0))) 5 (some (a5 0)))))))) :: (b, .inr (3, [.ref hm, .int 0, .int 0])) :: wr))))))) _ := hP
  have hD : va_D A (bkW cI cM a5 zI0 (bkW cI cM a4 zI0 (bkW cI cM a3 zI0 (bkW cI cM a2 zI0 (bkW cI cM a1 zI0 (bkW cI cM a0 zI0 ((hm, .inl (cB, 6, .inr (.inr (.inr (.inr (va_up (va_up (va_up (va_up (va_up (va_up (fun _ => none) 0 (some (a0 0))) 1 (some (a1 0))) 2 (some (a2 0))) 3 (some (a3 0))) 4 (some (a4 0))) 5 (some (a5 0)))))))) :: (b, .inr (3, [.ref hm, .int 0, .int 0])) :: wr))))))) := hD
  refine lv_iinc (v := 6) (lv' := [(1, .int 6), (0, .ref b)]) hx hb dX3_init_34 hl (k := 0) rfl (by decide) (by decide) rfl (fun ls hl => ?_)
  refine lv_goto (tgt := 15) hx hb dX3_init_37 (by decide) ?_
  refine lv_iload_n hx hb dX3_init_15 rfl (lv_at hl 0 rfl) ?_
  refine lv_bipush (v := 6) hx hb dX3_init_16 (by decide) ?_
  refine lv_icmp_ge (tgt := 40) hx hb dX3_init_18 (by decide) (fun _ => ?_) (fun c1 => absurd (by decide) c1)
  let ah : Nat → Nat → Nat := fun i => if i = 0 then a0 else if i = 1 then a1 else if i = 2 then a2 else if i = 3 then a3 else if i = 4 then a4 else a5
  let h : Nat → Nat := fun i => if i = 0 then b else hm
  have hP := va_P_perm (hs_perm (bkW cI cM a0 zI0 []) (bkW cI cM a1 zI0 []) (bkW cI cM a2 zI0 []) (bkW cI cM a3 zI0 []) (bkW cI cM a4 zI0 []) (bkW cI cM a5 zI0 []) [(hm, .inl (cB, 6, .inr (.inr (.inr (.inr (va_up (va_up (va_up (va_up (va_up (va_up (fun _ => none) 0 (some (a0 0))) 1 (some (a1 0))) 2 (some (a2 0))) 3 (some (a3 0))) 4 (some (a4 0))) 5 (some (a5 0))))))))] [(b, .inr (3, [.ref hm, .int 0, .int 0]))] wr) hP
  have hD := va_D_perm (hs_perm (bkW cI cM a0 zI0 []) (bkW cI cM a1 zI0 []) (bkW cI cM a2 zI0 []) (bkW cI cM a3 zI0 []) (bkW cI cM a4 zI0 []) (bkW cI cM a5 zI0 []) [(hm, .inl (cB, 6, .inr (.inr (.inr (.inr (va_up (va_up (va_up (va_up (va_up (va_up (fun _ => none) 0 (some (a0 0))) 1 (some (a1 0))) 2 (some (a2 0))) 3 (some (a3 0))) 4 (some (a4 0))) 5 (some (a5 0))))))))] [(b, .inr (3, [.ref hm, .int 0, .int 0]))] wr) hD
  have hP := va_P_cell (w1 := [(b, .inr (3, [.ref hm, .int 0, .int 0]))]) (w2 := (bkW cI cM a0 zI0 [] ++ (bkW cI cM a1 zI0 [] ++ (bkW cI cM a2 zI0 [] ++ (bkW cI cM a3 zI0 [] ++ (bkW cI cM a4 zI0 [] ++ (bkW cI cM a5 zI0 [] ++ wr))))))) (a := hm) (x := (cB, 6, .inr (.inr (.inr (.inr (va_up (va_up (va_up (va_up (va_up (va_up (fun _ => none) 0 (some (a0 0))) 1 (some (a1 0))) 2 (some (a2 0))) 3 (some (a3 0))) 4 (some (a4 0))) 5 (some (a5 0)))))))) (y := (cB, 6, .inr (.inr (.inr (.inr (fun i => some (ah i 0))))))) (q_congr (fun j hj => by rcases (show j = 0 ∨ j = 1 ∨ j = 2 ∨ j = 3 ∨ j = 4 ∨ j = 5 by omega) with rfl | rfl | rfl | rfl | rfl | rfl <;> rfl)) hP
  have hD := va_D_cell (w1 := [(b, .inr (3, [.ref hm, .int 0, .int 0]))]) (w2 := (bkW cI cM a0 zI0 [] ++ (bkW cI cM a1 zI0 [] ++ (bkW cI cM a2 zI0 [] ++ (bkW cI cM a3 zI0 [] ++ (bkW cI cM a4 zI0 [] ++ (bkW cI cM a5 zI0 [] ++ wr))))))) (a := hm) (y := .inl (cB, 6, .inr (.inr (.inr (.inr (fun i => some (ah i 0))))))) hD
  exact z_vretI hx hb hr hlocks hP hD hK hS ⟨h, ah, rfl, rfl⟩ dX3_init_40
end XI
