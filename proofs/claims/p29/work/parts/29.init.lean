/-! A bank's constructor: its loop unrolled. -/
theorem arrV_cg {cA : ClassId} {n : Nat} {f g : Nat → Value} (h : ∀ j, j < n → f j = g j) : arrV cA n f = arrV cA n g := by
  unfold arrV
  rw [show (fun j : Fin n => f j.val) = fun j : Fin n => g j.val from funext fun j => h j.val j.isLt]
theorem i_congr {cA : ClassId} {n : Nat} {f g : Nat → Int32} (h : ∀ j, j < n → f j = g j) : vp_cell cA (n, .inl f) = vp_cell cA (n, .inl g) := arrV_cg (fun j hj => congrArg Value.int (h j hj))
theorem q_congr {cA : ClassId} {n : Nat} {f g : Nat → Option Nat} (h : ∀ j, j < n → f j = g j) : vp_cell cA (n, .inr (.inr (.inr (.inr f)))) = vp_cell cA (n, .inr (.inr (.inr (.inr g)))) := by
  rw [vp_cell_q, vp_cell_q]
  exact arrV_cg (fun j hj => congrArg va_rf (h j hj))
/-- a cell for one that looks the same -/
theorem va_P_cell {D : va_G} {cl : List vw_C} {w1 w2 : va_W} {a : Nat} {x y : ClassId × vp_A} {H : Heap} (e : vp_cell x.1 x.2 = vp_cell y.1 y.2) (h : va_P D cl (w1 ++ (a, .inl x) :: w2) H) : va_P D cl (w1 ++ (a, .inl y) :: w2) H := by
  intro k q hk
  rcases List.mem_append.mp (List.mem_of_getElem? hk) with hm | hm
  · obtain ⟨i, hi⟩ := List.getElem?_of_mem (List.mem_append_left ((a, .inl x) :: w2) hm)
    exact h i q hi
  · rcases List.mem_cons.mp hm with hm | hm
    · subst hm
      obtain ⟨i, hi⟩ := List.getElem?_of_mem (List.mem_append_right w1 (List.mem_cons_self (a := (a, (.inl x : va_E))) (l := w2)))
      have h2 := h i _ hi
      show H[a]? = some (vp_cell y.1 y.2)
      rw [← e]; exact h2
    · obtain ⟨i, hi⟩ := List.getElem?_of_mem (List.mem_append_right w1 (List.mem_cons_of_mem (a, (.inl x : va_E)) hm))
      exact h i q hi
set_option maxRecDepth 100000 in
theorem bk_perm (s_ p7 m7 p6 m6 p5 m5 p4 m4 p3 m3 p2 m2 p1 m1 p0 m0 q_ b_ : Nat × va_E) (wr : va_W) : List.Perm (s_ :: p7 :: m7 :: p6 :: m6 :: p5 :: m5 :: p4 :: m4 :: p3 :: m3 :: p2 :: m2 :: p1 :: m1 :: p0 :: m0 :: q_ :: b_ :: wr) (b_ :: q_ :: s_ :: m0 :: m1 :: m2 :: m3 :: m4 :: m5 :: m6 :: m7 :: p0 :: p1 :: p2 :: p3 :: p4 :: p5 :: p6 :: p7 :: wr) := (List.perm_middle (l₁ := [s_, p7, m7, p6, m6, p5, m5, p4, m4, p3, m3, p2, m2, p1, m1, p0, m0, q_]) (a := b_)).trans (List.Perm.cons b_ ((List.perm_middle (l₁ := [s_, p7, m7, p6, m6, p5, m5, p4, m4, p3, m3, p2, m2, p1, m1, p0, m0]) (a := q_)).trans (List.Perm.cons q_ ((List.perm_middle (l₁ := []) (a := s_)).trans (List.Perm.cons s_ ((List.perm_middle (l₁ := [p7, m7, p6, m6, p5, m5, p4, m4, p3, m3, p2, m2, p1, m1, p0]) (a := m0)).trans (List.Perm.cons m0 ((List.perm_middle (l₁ := [p7, m7, p6, m6, p5, m5, p4, m4, p3, m3, p2, m2, p1]) (a := m1)).trans (List.Perm.cons m1 ((List.perm_middle (l₁ := [p7, m7, p6, m6, p5, m5, p4, m4, p3, m3, p2]) (a := m2)).trans (List.Perm.cons m2 ((List.perm_middle (l₁ := [p7, m7, p6, m6, p5, m5, p4, m4, p3]) (a := m3)).trans (List.Perm.cons m3 ((List.perm_middle (l₁ := [p7, m7, p6, m6, p5, m5, p4]) (a := m4)).trans (List.Perm.cons m4 ((List.perm_middle (l₁ := [p7, m7, p6, m6, p5]) (a := m5)).trans (List.Perm.cons m5 ((List.perm_middle (l₁ := [p7, m7, p6]) (a := m6)).trans (List.Perm.cons m6 ((List.perm_middle (l₁ := [p7]) (a := m7)).trans (List.Perm.cons m7 ((List.perm_middle (l₁ := [p7, p6, p5, p4, p3, p2, p1]) (a := p0)).trans (List.Perm.cons p0 ((List.perm_middle (l₁ := [p7, p6, p5, p4, p3, p2]) (a := p1)).trans (List.Perm.cons p1 ((List.perm_middle (l₁ := [p7, p6, p5, p4, p3]) (a := p2)).trans (List.Perm.cons p2 ((List.perm_middle (l₁ := [p7, p6, p5, p4]) (a := p3)).trans (List.Perm.cons p3 ((List.perm_middle (l₁ := [p7, p6, p5]) (a := p4)).trans (List.Perm.cons p4 ((List.perm_middle (l₁ := [p7, p6]) (a := p5)).trans (List.Perm.cons p5 ((List.perm_middle (l₁ := [p7]) (a := p6)).trans (List.Perm.cons p6 (List.Perm.refl _))))))))))))))))))))))))))))))))))))
def bnk0 : List Value := [.null, .null, .int 0, .int 0, .int 0, .int 0, .int 0, .int 0, .int 0]
def zI0 : Nat → Int32 := fun k => if k = 0 then 600 else if k = 1 then 120 else if k = 2 then 4 else if k = 3 then 10 else if k = 4 then 30 else if k = 10 then -1 else 0
theorem va_D_cell {A : Nat → Prop} {w1 w2 : va_W} {a : Nat} {x y : va_E} (h : va_D A (w1 ++ (a, x) :: w2)) : va_D A (w1 ++ (a, y) :: w2) := by
  rw [va_D_nd] at h ⊢
  obtain ⟨h1, h2⟩ := h
  constructor
  · simpa using h1
  · intro q hq
    rcases List.mem_append.mp hq with hm | hm
    · exact h2 q (List.mem_append_left _ hm)
    · rcases List.mem_cons.mp hm with hm | hm
      · rw [hm]; exact h2 (a, x) (List.mem_append_right _ List.mem_cons_self)
      · exact h2 q (List.mem_append_right _ (List.mem_cons_of_mem _ hm))
theorem pfn_I {j : Nat} : pfn zI0 j = fun _ => 0 := by
  funext k
  unfold pfn zI0
  split
  · rw [if_neg (by omega), if_neg (by omega), if_neg (by omega), if_neg (by omega), if_neg (by omega), if_neg (by omega)]
  · rfl
theorem mem0_ok : ∀ j, j < 13 → defaultValue (tyX4 j) = vp_V mem0 j := fun j hj => by
  rcases (show j = 0 ∨ j = 1 ∨ j = 2 ∨ j = 3 ∨ j = 4 ∨ j = 5 ∨ j = 6 ∨ j = 7 ∨ j = 8 ∨ j = 9 ∨ j = 10 ∨ j = 11 ∨ j = 12 by omega) with rfl | rfl | rfl | rfl | rfl | rfl | rfl | rfl | rfl | rfl | rfl | rfl | rfl <;> rfl
section XI
variable {l : Launch} {D : va_G} {cI cC cM cB cJ : ClassId} {wr : va_W}
set_option maxHeartbeats 4000000 in
set_option maxRecDepth 100000 in
theorem c_X0_init (b : Nat) : zI l D (zT cI cC cM cB cJ) yX0_init cX0_init 2 ({ frames := 2, cells := 18, slots := 157, locals := 40 } : Room) b ((b, .inr (0, bnk0)) :: wr) (fun w2 => ∃ ad : Nat → Nat, ad 0 = b ∧ w2 = bkW cI cM ad zI0 wr) 18 157 := by
  refine z_enterI (by decide) (Nat.le_of_ble_eq_true rfl) ?_
  intro p e s m below meth c A S hr hlocks hnm hF hN hA hK hP hD hS ls hl
  obtain ⟨hx, hb, hml, hown, hts⟩ := id S
  have hin : meth.name = "<init>" := hnm
  have hl : lv_has ls 2 [(0, .ref b)] := hl
  refine lv_aload_n hx hb dX0_init_0 rfl (lv_at hl 0 rfl) ?_
  refine W.objInit hx hb hown (hts _ qm_X0_3) (hts _ qi_objinit) (hts _ qc_objinit) rfl (hl.1.trans hml.symm) rfl dX0_init_1 (Nat.le_of_ble_eq_true rfl) (Nat.le_of_ble_eq_true rfl) ?_
  refine W.eq (g2 := F0 m 4 ls []) rfl ?_
  obtain ⟨tf, hz, ht⟩ := hF.2
  refine lv_aload_n hx hb dX0_init_4 rfl (lv_at hl 0 rfl) ?_
  refine lv_bipush (v := 8) hx hb dX0_init_5 (by decide) ?_
  refine va_newq (N' := 8) hx hb hown (hts _ qk_X0_9) hF.1.1 hK hP hD hS hA (by decide) (by decide) (by decide) (Nat.le_of_ble_eq_true rfl) (Nat.le_of_ble_eq_true rfl) dX0_init_7 (fun qm cA H hK2 hP hD hS => ?_)
  have eA : cA = cM := ra_uniq (hK2.2 4 (cA, .object "RipeHours$Member") rfl).2 (hK.2 2 _ rfl).2
  rw [eA] at hP hD
  have hP := front_P hP
  have hD := front_D hD
  refine va_putF (v := .ref qm) (ty := .array (.object "RipeHours$Member")) hx hb hts inTX0 tyX0 tyX0_ok nmX0 hown hK hP hD hS 1 rfl rfl 0 (by decide) (hts _ qf_X0_11) (fun _ h9 => h9) rfl hin rfl (by decide +kernel) rfl rfl (Nat.le_of_ble_eq_true rfl) dX0_init_10 (fun H locs hP hD hS => ?_)
  have hP : va_P D vwCl ((qm, .inl (cM, 8, .inr (.inr (.inr (.inr (fun _ => none)))))) :: (b, .inr (0, [.ref qm, .null, .int 0, .int 0, .int 0, .int 0, .int 0, .int 0, .int 0])) :: wr) _ := hP
  have hD : va_D A ((qm, .inl (cM, 8, .inr (.inr (.inr (.inr (fun _ => none)))))) :: (b, .inr (0, [.ref qm, .null, .int 0, .int 0, .int 0, .int 0, .int 0, .int 0, .int 0])) :: wr) := hD
  refine lv_iconst (v := 0) hx hb dX0_init_13 (by decide) ?_
  refine lv_istore_n (lv' := [(1, .int 0), (0, .ref b)]) hx hb dX0_init_14 rfl hl (by decide) rfl (fun ls hl => ?_)
  refine lv_iload_n hx hb dX0_init_15 rfl (lv_at hl 0 rfl) ?_
  refine lv_bipush (v := 8) hx hb dX0_init_16 (by decide) ?_
  refine lv_icmp_ge (tgt := 40) hx hb dX0_init_18 (by decide) (fun c1 => absurd c1 (by decide)) (fun _ => ?_)
  refine lv_aload_n hx hb dX0_init_21 rfl (lv_at hl 1 rfl) ?_
  refine va_get (v := .ref qm) hx hb hts inTX0 hown hK hP 1 rfl rfl 0 (by decide) (hts _ qf_X0_11) (fun _ h9 => h9) rfl dX0_init_22 ?_
  refine lv_iload_n hx hb dX0_init_25 rfl (lv_at hl 0 rfl) ?_
  refine va_new (ci := 4) (fs := mem0) hx hb hts inTX4 tyX4 tyX4_ok hown (hts _ qk_X0_9) (hts _ qa_X4) (hts _ qn_X4) hK hP hD hS hA rfl mem0_ok (Nat.le_of_ble_eq_true rfl) (Nat.le_of_ble_eq_true rfl) dX0_init_26 (fun m0 H hP hD hS => ?_)
  have hP := front_P hP
  have hD := front_D hD
  refine lv_dup hx hb dX0_init_29 rfl ?_
  refine z_callC S (c_X4_init m0) qm_X0_17 n_X4_init ⟨(Nat.le_of_ble_eq_true rfl), (Nat.le_of_ble_eq_true rfl)⟩ rfl rfl hF hN hK hP hD hS hA hl.1 rfl (Nat.le_of_ble_eq_true rfl) dX0_init_30 ⟨(Nat.le_of_ble_eq_true rfl), (Nat.le_of_ble_eq_true rfl)⟩ (fun w2 H locs hG hP hD hS => ?_)
  obtain ⟨p0, rfl⟩ := hG
  refine va_astq hx hb hK hP hD hS 2 2 1 4 rfl rfl rfl rfl (show ¬ ((0 : Int32) < 0 ∨ 8 ≤ (0 : Int32).toNatClampNeg) by decide) dX0_init_33 (fun H locs hP hD hS => ?_)
  have hP : va_P D vwCl ((p0, .inl (cI, 5, .inl (fun _ => 0))) :: (m0, .inr (4, mem1 p0)) :: (qm, .inl (cM, 8, .inr (.inr (.inr (.inr (va_up (fun _ => none) 0 (some m0))))))) :: (b, .inr (0, [.ref qm, .null, .int 0, .int 0, .int 0, .int 0, .int 0, .int 0, .int 0])) :: wr) _ := hP
  have hD : va_D A ((p0, .inl (cI, 5, .inl (fun _ => 0))) :: (m0, .inr (4, mem1 p0)) :: (qm, .inl (cM, 8, .inr (.inr (.inr (.inr (va_up (fun _ => none) 0 (some m0))))))) :: (b, .inr (0, [.ref qm, .null, .int 0, .int 0, .int 0, .int 0, .int 0, .int 0, .int 0])) :: wr) := hD
  refine lv_iinc (v := 1) (lv' := [(1, .int 1), (0, .ref b)]) hx hb dX0_init_34 hl (k := 0) rfl (by decide) (by decide) rfl (fun ls hl => ?_)
  refine lv_goto (tgt := 15) hx hb dX0_init_37 (by decide) ?_
  refine lv_iload_n hx hb dX0_init_15 rfl (lv_at hl 0 rfl) ?_
  refine lv_bipush (v := 8) hx hb dX0_init_16 (by decide) ?_
  refine lv_icmp_ge (tgt := 40) hx hb dX0_init_18 (by decide) (fun c1 => absurd c1 (by decide)) (fun _ => ?_)
  refine lv_aload_n hx hb dX0_init_21 rfl (lv_at hl 1 rfl) ?_
  refine va_get (v := .ref qm) hx hb hts inTX0 hown hK hP 3 rfl rfl 0 (by decide) (hts _ qf_X0_11) (fun _ h9 => h9) rfl dX0_init_22 ?_
  refine lv_iload_n hx hb dX0_init_25 rfl (lv_at hl 0 rfl) ?_
  refine va_new (ci := 4) (fs := mem0) hx hb hts inTX4 tyX4 tyX4_ok hown (hts _ qk_X0_9) (hts _ qa_X4) (hts _ qn_X4) hK hP hD hS hA rfl mem0_ok (Nat.le_of_ble_eq_true rfl) (Nat.le_of_ble_eq_true rfl) dX0_init_26 (fun m1 H hP hD hS => ?_)
  have hP := front_P hP
  have hD := front_D hD
  refine lv_dup hx hb dX0_init_29 rfl ?_
  refine z_callC S (c_X4_init m1) qm_X0_17 n_X4_init ⟨(Nat.le_of_ble_eq_true rfl), (Nat.le_of_ble_eq_true rfl)⟩ rfl rfl hF hN hK hP hD hS hA hl.1 rfl (Nat.le_of_ble_eq_true rfl) dX0_init_30 ⟨(Nat.le_of_ble_eq_true rfl), (Nat.le_of_ble_eq_true rfl)⟩ (fun w2 H locs hG hP hD hS => ?_)
  obtain ⟨p1, rfl⟩ := hG
  refine va_astq hx hb hK hP hD hS 4 2 1 4 rfl rfl rfl rfl (show ¬ ((1 : Int32) < 0 ∨ 8 ≤ (1 : Int32).toNatClampNeg) by decide) dX0_init_33 (fun H locs hP hD hS => ?_)
  have hP : va_P D vwCl ((p1, .inl (cI, 5, .inl (fun _ => 0))) :: (m1, .inr (4, mem1 p1)) :: (p0, .inl (cI, 5, .inl (fun _ => 0))) :: (m0, .inr (4, mem1 p0)) :: (qm, .inl (cM, 8, .inr (.inr (.inr (.inr (va_up (va_up (fun _ => none) 0 (some m0)) 1 (some m1))))))) :: (b, .inr (0, [.ref qm, .null, .int 0, .int 0, .int 0, .int 0, .int 0, .int 0, .int 0])) :: wr) _ := hP
  have hD : va_D A ((p1, .inl (cI, 5, .inl (fun _ => 0))) :: (m1, .inr (4, mem1 p1)) :: (p0, .inl (cI, 5, .inl (fun _ => 0))) :: (m0, .inr (4, mem1 p0)) :: (qm, .inl (cM, 8, .inr (.inr (.inr (.inr (va_up (va_up (fun _ => none) 0 (some m0)) 1 (some m1))))))) :: (b, .inr (0, [.ref qm, .null, .int 0, .int 0, .int 0, .int 0, .int 0, .int 0, .int 0])) :: wr) := hD
  refine lv_iinc (v := 2) (lv' := [(1, .int 2), (0, .ref b)]) hx hb dX0_init_34 hl (k := 0) rfl (by decide) (by decide) rfl (fun ls hl => ?_)
  refine lv_goto (tgt := 15) hx hb dX0_init_37 (by decide) ?_
  refine lv_iload_n hx hb dX0_init_15 rfl (lv_at hl 0 rfl) ?_
  refine lv_bipush (v := 8) hx hb dX0_init_16 (by decide) ?_
  refine lv_icmp_ge (tgt := 40) hx hb dX0_init_18 (by decide) (fun c1 => absurd c1 (by decide)) (fun _ => ?_)
  refine lv_aload_n hx hb dX0_init_21 rfl (lv_at hl 1 rfl) ?_
  refine va_get (v := .ref qm) hx hb hts inTX0 hown hK hP 5 rfl rfl 0 (by decide) (hts _ qf_X0_11) (fun _ h9 => h9) rfl dX0_init_22 ?_
  refine lv_iload_n hx hb dX0_init_25 rfl (lv_at hl 0 rfl) ?_
  refine va_new (ci := 4) (fs := mem0) hx hb hts inTX4 tyX4 tyX4_ok hown (hts _ qk_X0_9) (hts _ qa_X4) (hts _ qn_X4) hK hP hD hS hA rfl mem0_ok (Nat.le_of_ble_eq_true rfl) (Nat.le_of_ble_eq_true rfl) dX0_init_26 (fun m2 H hP hD hS => ?_)
  have hP := front_P hP
  have hD := front_D hD
  refine lv_dup hx hb dX0_init_29 rfl ?_
  refine z_callC S (c_X4_init m2) qm_X0_17 n_X4_init ⟨(Nat.le_of_ble_eq_true rfl), (Nat.le_of_ble_eq_true rfl)⟩ rfl rfl hF hN hK hP hD hS hA hl.1 rfl (Nat.le_of_ble_eq_true rfl) dX0_init_30 ⟨(Nat.le_of_ble_eq_true rfl), (Nat.le_of_ble_eq_true rfl)⟩ (fun w2 H locs hG hP hD hS => ?_)
  obtain ⟨p2, rfl⟩ := hG
  refine va_astq hx hb hK hP hD hS 6 2 1 4 rfl rfl rfl rfl (show ¬ ((2 : Int32) < 0 ∨ 8 ≤ (2 : Int32).toNatClampNeg) by decide) dX0_init_33 (fun H locs hP hD hS => ?_)
  have hP : va_P D vwCl ((p2, .inl (cI, 5, .inl (fun _ => 0))) :: (m2, .inr (4, mem1 p2)) :: (p1, .inl (cI, 5, .inl (fun _ => 0))) :: (m1, .inr (4, mem1 p1)) :: (p0, .inl (cI, 5, .inl (fun _ => 0))) :: (m0, .inr (4, mem1 p0)) :: (qm, .inl (cM, 8, .inr (.inr (.inr (.inr (va_up (va_up (va_up (fun _ => none) 0 (some m0)) 1 (some m1)) 2 (some m2))))))) :: (b, .inr (0, [.ref qm, .null, .int 0, .int 0, .int 0, .int 0, .int 0, .int 0, .int 0])) :: wr) _ := hP
  have hD : va_D A ((p2, .inl (cI, 5, .inl (fun _ => 0))) :: (m2, .inr (4, mem1 p2)) :: (p1, .inl (cI, 5, .inl (fun _ => 0))) :: (m1, .inr (4, mem1 p1)) :: (p0, .inl (cI, 5, .inl (fun _ => 0))) :: (m0, .inr (4, mem1 p0)) :: (qm, .inl (cM, 8, .inr (.inr (.inr (.inr (va_up (va_up (va_up (fun _ => none) 0 (some m0)) 1 (some m1)) 2 (some m2))))))) :: (b, .inr (0, [.ref qm, .null, .int 0, .int 0, .int 0, .int 0, .int 0, .int 0, .int 0])) :: wr) := hD
  refine lv_iinc (v := 3) (lv' := [(1, .int 3), (0, .ref b)]) hx hb dX0_init_34 hl (k := 0) rfl (by decide) (by decide) rfl (fun ls hl => ?_)
  refine lv_goto (tgt := 15) hx hb dX0_init_37 (by decide) ?_
  refine lv_iload_n hx hb dX0_init_15 rfl (lv_at hl 0 rfl) ?_
  refine lv_bipush (v := 8) hx hb dX0_init_16 (by decide) ?_
  refine lv_icmp_ge (tgt := 40) hx hb dX0_init_18 (by decide) (fun c1 => absurd c1 (by decide)) (fun _ => ?_)
  refine lv_aload_n hx hb dX0_init_21 rfl (lv_at hl 1 rfl) ?_
  refine va_get (v := .ref qm) hx hb hts inTX0 hown hK hP 7 rfl rfl 0 (by decide) (hts _ qf_X0_11) (fun _ h9 => h9) rfl dX0_init_22 ?_
  refine lv_iload_n hx hb dX0_init_25 rfl (lv_at hl 0 rfl) ?_
  refine va_new (ci := 4) (fs := mem0) hx hb hts inTX4 tyX4 tyX4_ok hown (hts _ qk_X0_9) (hts _ qa_X4) (hts _ qn_X4) hK hP hD hS hA rfl mem0_ok (Nat.le_of_ble_eq_true rfl) (Nat.le_of_ble_eq_true rfl) dX0_init_26 (fun m3 H hP hD hS => ?_)
  have hP := front_P hP
  have hD := front_D hD
  refine lv_dup hx hb dX0_init_29 rfl ?_
  refine z_callC S (c_X4_init m3) qm_X0_17 n_X4_init ⟨(Nat.le_of_ble_eq_true rfl), (Nat.le_of_ble_eq_true rfl)⟩ rfl rfl hF hN hK hP hD hS hA hl.1 rfl (Nat.le_of_ble_eq_true rfl) dX0_init_30 ⟨(Nat.le_of_ble_eq_true rfl), (Nat.le_of_ble_eq_true rfl)⟩ (fun w2 H locs hG hP hD hS => ?_)
  obtain ⟨p3, rfl⟩ := hG
  refine va_astq hx hb hK hP hD hS 8 2 1 4 rfl rfl rfl rfl (show ¬ ((3 : Int32) < 0 ∨ 8 ≤ (3 : Int32).toNatClampNeg) by decide) dX0_init_33 (fun H locs hP hD hS => ?_)
  have hP : va_P D vwCl ((p3, .inl (cI, 5, .inl (fun _ => 0))) :: (m3, .inr (4, mem1 p3)) :: (p2, .inl (cI, 5, .inl (fun _ => 0))) :: (m2, .inr (4, mem1 p2)) :: (p1, .inl (cI, 5, .inl (fun _ => 0))) :: (m1, .inr (4, mem1 p1)) :: (p0, .inl (cI, 5, .inl (fun _ => 0))) :: (m0, .inr (4, mem1 p0)) :: (qm, .inl (cM, 8, .inr (.inr (.inr (.inr (va_up (va_up (va_up (va_up (fun _ => none) 0 (some m0)) 1 (some m1)) 2 (some m2)) 3 (some m3))))))) :: (b, .inr (0, [.ref qm, .null, .int 0, .int 0, .int 0, .int 0, .int 0, .int 0, .int 0])) :: wr) _ := hP
  have hD : va_D A ((p3, .inl (cI, 5, .inl (fun _ => 0))) :: (m3, .inr (4, mem1 p3)) :: (p2, .inl (cI, 5, .inl (fun _ => 0))) :: (m2, .inr (4, mem1 p2)) :: (p1, .inl (cI, 5, .inl (fun _ => 0))) :: (m1, .inr (4, mem1 p1)) :: (p0, .inl (cI, 5, .inl (fun _ => 0))) :: (m0, .inr (4, mem1 p0)) :: (qm, .inl (cM, 8, .inr (.inr (.inr (.inr (va_up (va_up (va_up (va_up (fun _ => none) 0 (some m0)) 1 (some m1)) 2 (some m2)) 3 (some m3))))))) :: (b, .inr (0, [.ref qm, .null, .int 0, .int 0, .int 0, .int 0, .int 0, .int 0, .int 0])) :: wr) := hD
  refine lv_iinc (v := 4) (lv' := [(1, .int 4), (0, .ref b)]) hx hb dX0_init_34 hl (k := 0) rfl (by decide) (by decide) rfl (fun ls hl => ?_)
  refine lv_goto (tgt := 15) hx hb dX0_init_37 (by decide) ?_
  refine lv_iload_n hx hb dX0_init_15 rfl (lv_at hl 0 rfl) ?_
  refine lv_bipush (v := 8) hx hb dX0_init_16 (by decide) ?_
  refine lv_icmp_ge (tgt := 40) hx hb dX0_init_18 (by decide) (fun c1 => absurd c1 (by decide)) (fun _ => ?_)
  refine lv_aload_n hx hb dX0_init_21 rfl (lv_at hl 1 rfl) ?_
  refine va_get (v := .ref qm) hx hb hts inTX0 hown hK hP 9 rfl rfl 0 (by decide) (hts _ qf_X0_11) (fun _ h9 => h9) rfl dX0_init_22 ?_
  refine lv_iload_n hx hb dX0_init_25 rfl (lv_at hl 0 rfl) ?_
  refine va_new (ci := 4) (fs := mem0) hx hb hts inTX4 tyX4 tyX4_ok hown (hts _ qk_X0_9) (hts _ qa_X4) (hts _ qn_X4) hK hP hD hS hA rfl mem0_ok (Nat.le_of_ble_eq_true rfl) (Nat.le_of_ble_eq_true rfl) dX0_init_26 (fun m4 H hP hD hS => ?_)
  have hP := front_P hP
  have hD := front_D hD
  refine lv_dup hx hb dX0_init_29 rfl ?_
  refine z_callC S (c_X4_init m4) qm_X0_17 n_X4_init ⟨(Nat.le_of_ble_eq_true rfl), (Nat.le_of_ble_eq_true rfl)⟩ rfl rfl hF hN hK hP hD hS hA hl.1 rfl (Nat.le_of_ble_eq_true rfl) dX0_init_30 ⟨(Nat.le_of_ble_eq_true rfl), (Nat.le_of_ble_eq_true rfl)⟩ (fun w2 H locs hG hP hD hS => ?_)
  obtain ⟨p4, rfl⟩ := hG
  refine va_astq hx hb hK hP hD hS 10 2 1 4 rfl rfl rfl rfl (show ¬ ((4 : Int32) < 0 ∨ 8 ≤ (4 : Int32).toNatClampNeg) by decide) dX0_init_33 (fun H locs hP hD hS => ?_)
  have hP : va_P D vwCl ((p4, .inl (cI, 5, .inl (fun _ => 0))) :: (m4, .inr (4, mem1 p4)) :: (p3, .inl (cI, 5, .inl (fun _ => 0))) :: (m3, .inr (4, mem1 p3)) :: (p2, .inl (cI, 5, .inl (fun _ => 0))) :: (m2, .inr (4, mem1 p2)) :: (p1, .inl (cI, 5, .inl (fun _ => 0))) :: (m1, .inr (4, mem1 p1)) :: (p0, .inl (cI, 5, .inl (fun _ => 0))) :: (m0, .inr (4, mem1 p0)) :: (qm, .inl (cM, 8, .inr (.inr (.inr (.inr (va_up (va_up (va_up (va_up (va_up (fun _ => none) 0 (some m0)) 1 (some m1)) 2 (some m2)) 3 (some m3)) 4 (some m4))))))) :: (b, .inr (0, [.ref qm, .null, .int 0, .int 0, .int 0, .int 0, .int 0, .int 0, .int 0])) :: wr) _ := hP
  have hD : va_D A ((p4, .inl (cI, 5, .inl (fun _ => 0))) :: (m4, .inr (4, mem1 p4)) :: (p3, .inl (cI, 5, .inl (fun _ => 0))) :: (m3, .inr (4, mem1 p3)) :: (p2, .inl (cI, 5, .inl (fun _ => 0))) :: (m2, .inr (4, mem1 p2)) :: (p1, .inl (cI, 5, .inl (fun _ => 0))) :: (m1, .inr (4, mem1 p1)) :: (p0, .inl (cI, 5, .inl (fun _ => 0))) :: (m0, .inr (4, mem1 p0)) :: (qm, .inl (cM, 8, .inr (.inr (.inr (.inr (va_up (va_up (va_up (va_up (va_up (fun _ => none) 0 (some m0)) 1 (some m1)) 2 (some m2)) 3 (some m3)) 4 (some m4))))))) :: (b, .inr (0, [.ref qm, .null, .int 0, .int 0, .int 0, .int 0, .int 0, .int 0, .int 0])) :: wr) := hD
  refine lv_iinc (v := 5) (lv' := [(1, .int 5), (0, .ref b)]) hx hb dX0_init_34 hl (k := 0) rfl (by decide) (by decide) rfl (fun ls hl => ?_)
  refine lv_goto (tgt := 15) hx hb dX0_init_37 (by decide) ?_
  refine lv_iload_n hx hb dX0_init_15 rfl (lv_at hl 0 rfl) ?_
  refine lv_bipush (v := 8) hx hb dX0_init_16 (by decide) ?_
  refine lv_icmp_ge (tgt := 40) hx hb dX0_init_18 (by decide) (fun c1 => absurd c1 (by decide)) (fun _ => ?_)
  refine lv_aload_n hx hb dX0_init_21 rfl (lv_at hl 1 rfl) ?_
  refine va_get (v := .ref qm) hx hb hts inTX0 hown hK hP 11 rfl rfl 0 (by decide) (hts _ qf_X0_11) (fun _ h9 => h9) rfl dX0_init_22 ?_
  refine lv_iload_n hx hb dX0_init_25 rfl (lv_at hl 0 rfl) ?_
  refine va_new (ci := 4) (fs := mem0) hx hb hts inTX4 tyX4 tyX4_ok hown (hts _ qk_X0_9) (hts _ qa_X4) (hts _ qn_X4) hK hP hD hS hA rfl mem0_ok (Nat.le_of_ble_eq_true rfl) (Nat.le_of_ble_eq_true rfl) dX0_init_26 (fun m5 H hP hD hS => ?_)
  have hP := front_P hP
  have hD := front_D hD
  refine lv_dup hx hb dX0_init_29 rfl ?_
  refine z_callC S (c_X4_init m5) qm_X0_17 n_X4_init ⟨(Nat.le_of_ble_eq_true rfl), (Nat.le_of_ble_eq_true rfl)⟩ rfl rfl hF hN hK hP hD hS hA hl.1 rfl (Nat.le_of_ble_eq_true rfl) dX0_init_30 ⟨(Nat.le_of_ble_eq_true rfl), (Nat.le_of_ble_eq_true rfl)⟩ (fun w2 H locs hG hP hD hS => ?_)
  obtain ⟨p5, rfl⟩ := hG
  refine va_astq hx hb hK hP hD hS 12 2 1 4 rfl rfl rfl rfl (show ¬ ((5 : Int32) < 0 ∨ 8 ≤ (5 : Int32).toNatClampNeg) by decide) dX0_init_33 (fun H locs hP hD hS => ?_)
  have hP : va_P D vwCl ((p5, .inl (cI, 5, .inl (fun _ => 0))) :: (m5, .inr (4, mem1 p5)) :: (p4, .inl (cI, 5, .inl (fun _ => 0))) :: (m4, .inr (4, mem1 p4)) :: (p3, .inl (cI, 5, .inl (fun _ => 0))) :: (m3, .inr (4, mem1 p3)) :: (p2, .inl (cI, 5, .inl (fun _ => 0))) :: (m2, .inr (4, mem1 p2)) :: (p1, .inl (cI, 5, .inl (fun _ => 0))) :: (m1, .inr (4, mem1 p1)) :: (p0, .inl (cI, 5, .inl (fun _ => 0))) :: (m0, .inr (4, mem1 p0)) :: (qm, .inl (cM, 8, .inr (.inr (.inr (.inr (va_up (va_up (va_up (va_up (va_up (va_up (fun _ => none) 0 (some m0)) 1 (some m1)) 2 (some m2)) 3 (some m3)) 4 (some m4)) 5 (some m5))))))) :: (b, .inr (0, [.ref qm, .null, .int 0, .int 0, .int 0, .int 0, .int 0, .int 0, .int 0])) :: wr) _ := hP
  have hD : va_D A ((p5, .inl (cI, 5, .inl (fun _ => 0))) :: (m5, .inr (4, mem1 p5)) :: (p4, .inl (cI, 5, .inl (fun _ => 0))) :: (m4, .inr (4, mem1 p4)) :: (p3, .inl (cI, 5, .inl (fun _ => 0))) :: (m3, .inr (4, mem1 p3)) :: (p2, .inl (cI, 5, .inl (fun _ => 0))) :: (m2, .inr (4, mem1 p2)) :: (p1, .inl (cI, 5, .inl (fun _ => 0))) :: (m1, .inr (4, mem1 p1)) :: (p0, .inl (cI, 5, .inl (fun _ => 0))) :: (m0, .inr (4, mem1 p0)) :: (qm, .inl (cM, 8, .inr (.inr (.inr (.inr (va_up (va_up (va_up (va_up (va_up (va_up (fun _ => none) 0 (some m0)) 1 (some m1)) 2 (some m2)) 3 (some m3)) 4 (some m4)) 5 (some m5))))))) :: (b, .inr (0, [.ref qm, .null, .int 0, .int 0, .int 0, .int 0, .int 0, .int 0, .int 0])) :: wr) := hD
  refine lv_iinc (v := 6) (lv' := [(1, .int 6), (0, .ref b)]) hx hb dX0_init_34 hl (k := 0) rfl (by decide) (by decide) rfl (fun ls hl => ?_)
  refine lv_goto (tgt := 15) hx hb dX0_init_37 (by decide) ?_
  refine lv_iload_n hx hb dX0_init_15 rfl (lv_at hl 0 rfl) ?_
  refine lv_bipush (v := 8) hx hb dX0_init_16 (by decide) ?_
  refine lv_icmp_ge (tgt := 40) hx hb dX0_init_18 (by decide) (fun c1 => absurd c1 (by decide)) (fun _ => ?_)
  refine lv_aload_n hx hb dX0_init_21 rfl (lv_at hl 1 rfl) ?_
  refine va_get (v := .ref qm) hx hb hts inTX0 hown hK hP 13 rfl rfl 0 (by decide) (hts _ qf_X0_11) (fun _ h9 => h9) rfl dX0_init_22 ?_
  refine lv_iload_n hx hb dX0_init_25 rfl (lv_at hl 0 rfl) ?_
  refine va_new (ci := 4) (fs := mem0) hx hb hts inTX4 tyX4 tyX4_ok hown (hts _ qk_X0_9) (hts _ qa_X4) (hts _ qn_X4) hK hP hD hS hA rfl mem0_ok (Nat.le_of_ble_eq_true rfl) (Nat.le_of_ble_eq_true rfl) dX0_init_26 (fun m6 H hP hD hS => ?_)
  have hP := front_P hP
  have hD := front_D hD
  refine lv_dup hx hb dX0_init_29 rfl ?_
  refine z_callC S (c_X4_init m6) qm_X0_17 n_X4_init ⟨(Nat.le_of_ble_eq_true rfl), (Nat.le_of_ble_eq_true rfl)⟩ rfl rfl hF hN hK hP hD hS hA hl.1 rfl (Nat.le_of_ble_eq_true rfl) dX0_init_30 ⟨(Nat.le_of_ble_eq_true rfl), (Nat.le_of_ble_eq_true rfl)⟩ (fun w2 H locs hG hP hD hS => ?_)
  obtain ⟨p6, rfl⟩ := hG
  refine va_astq hx hb hK hP hD hS 14 2 1 4 rfl rfl rfl rfl (show ¬ ((6 : Int32) < 0 ∨ 8 ≤ (6 : Int32).toNatClampNeg) by decide) dX0_init_33 (fun H locs hP hD hS => ?_)
  have hP : va_P D vwCl ((p6, .inl (cI, 5, .inl (fun _ => 0))) :: (m6, .inr (4, mem1 p6)) :: (p5, .inl (cI, 5, .inl (fun _ => 0))) :: (m5, .inr (4, mem1 p5)) :: (p4, .inl (cI, 5, .inl (fun _ => 0))) :: (m4, .inr (4, mem1 p4)) :: (p3, .inl (cI, 5, .inl (fun _ => 0))) :: (m3, .inr (4, mem1 p3)) :: (p2, .inl (cI, 5, .inl (fun _ => 0))) :: (m2, .inr (4, mem1 p2)) :: (p1, .inl (cI, 5, .inl (fun _ => 0))) :: (m1, .inr (4, mem1 p1)) :: (p0, .inl (cI, 5, .inl (fun _ => 0))) :: (m0, .inr (4, mem1 p0)) :: (qm, .inl (cM, 8, .inr (.inr (.inr (.inr (va_up (va_up (va_up (va_up (va_up (va_up (va_up (fun _ => none) 0 (some m0)) 1 (some m1)) 2 (some m2)) 3 (some m3)) 4 (some m4)) 5 (some m5)) 6 (some m6))))))) :: (b, .inr (0, [.ref qm, .null, .int 0, .int 0, .int 0, .int 0, .int 0, .int 0, .int 0])) :: wr) _ := hP
  have hD : va_D A ((p6, .inl (cI, 5, .inl (fun _ => 0))) :: (m6, .inr (4, mem1 p6)) :: (p5, .inl (cI, 5, .inl (fun _ => 0))) :: (m5, .inr (4, mem1 p5)) :: (p4, .inl (cI, 5, .inl (fun _ => 0))) :: (m4, .inr (4, mem1 p4)) :: (p3, .inl (cI, 5, .inl (fun _ => 0))) :: (m3, .inr (4, mem1 p3)) :: (p2, .inl (cI, 5, .inl (fun _ => 0))) :: (m2, .inr (4, mem1 p2)) :: (p1, .inl (cI, 5, .inl (fun _ => 0))) :: (m1, .inr (4, mem1 p1)) :: (p0, .inl (cI, 5, .inl (fun _ => 0))) :: (m0, .inr (4, mem1 p0)) :: (qm, .inl (cM, 8, .inr (.inr (.inr (.inr (va_up (va_up (va_up (va_up (va_up (va_up (va_up (fun _ => none) 0 (some m0)) 1 (some m1)) 2 (some m2)) 3 (some m3)) 4 (some m4)) 5 (some m5)) 6 (some m6))))))) :: (b, .inr (0, [.ref qm, .null, .int 0, .int 0, .int 0, .int 0, .int 0, .int 0, .int 0])) :: wr) := hD
  refine lv_iinc (v := 7) (lv' := [(1, .int 7), (0, .ref b)]) hx hb dX0_init_34 hl (k := 0) rfl (by decide) (by decide) rfl (fun ls hl => ?_)
  refine lv_goto (tgt := 15) hx hb dX0_init_37 (by decide) ?_
  refine lv_iload_n hx hb dX0_init_15 rfl (lv_at hl 0 rfl) ?_
  refine lv_bipush (v := 8) hx hb dX0_init_16 (by decide) ?_
  refine lv_icmp_ge (tgt := 40) hx hb dX0_init_18 (by decide) (fun c1 => absurd c1 (by decide)) (fun _ => ?_)
  refine lv_aload_n hx hb dX0_init_21 rfl (lv_at hl 1 rfl) ?_
  refine va_get (v := .ref qm) hx hb hts inTX0 hown hK hP 15 rfl rfl 0 (by decide) (hts _ qf_X0_11) (fun _ h9 => h9) rfl dX0_init_22 ?_
  refine lv_iload_n hx hb dX0_init_25 rfl (lv_at hl 0 rfl) ?_
  refine va_new (ci := 4) (fs := mem0) hx hb hts inTX4 tyX4 tyX4_ok hown (hts _ qk_X0_9) (hts _ qa_X4) (hts _ qn_X4) hK hP hD hS hA rfl mem0_ok (Nat.le_of_ble_eq_true rfl) (Nat.le_of_ble_eq_true rfl) dX0_init_26 (fun m7 H hP hD hS => ?_)
  have hP := front_P hP
  have hD := front_D hD
  refine lv_dup hx hb dX0_init_29 rfl ?_
  refine z_callC S (c_X4_init m7) qm_X0_17 n_X4_init ⟨(Nat.le_of_ble_eq_true rfl), (Nat.le_of_ble_eq_true rfl)⟩ rfl rfl hF hN hK hP hD hS hA hl.1 rfl (Nat.le_of_ble_eq_true rfl) dX0_init_30 ⟨(Nat.le_of_ble_eq_true rfl), (Nat.le_of_ble_eq_true rfl)⟩ (fun w2 H locs hG hP hD hS => ?_)
  obtain ⟨p7, rfl⟩ := hG
  refine va_astq hx hb hK hP hD hS 16 2 1 4 rfl rfl rfl rfl (show ¬ ((7 : Int32) < 0 ∨ 8 ≤ (7 : Int32).toNatClampNeg) by decide) dX0_init_33 (fun H locs hP hD hS => ?_)
  have hP : va_P D vwCl ((p7, .inl (cI, 5, .inl (fun _ => 0))) :: (m7, .inr (4, mem1 p7)) :: (p6, .inl (cI, 5, .inl (fun _ => 0))) :: (m6, .inr (4, mem1 p6)) :: (p5, .inl (cI, 5, .inl (fun _ => 0))) :: (m5, .inr (4, mem1 p5)) :: (p4, .inl (cI, 5, .inl (fun _ => 0))) :: (m4, .inr (4, mem1 p4)) :: (p3, .inl (cI, 5, .inl (fun _ => 0))) :: (m3, .inr (4, mem1 p3)) :: (p2, .inl (cI, 5, .inl (fun _ => 0))) :: (m2, .inr (4, mem1 p2)) :: (p1, .inl (cI, 5, .inl (fun _ => 0))) :: (m1, .inr (4, mem1 p1)) :: (p0, .inl (cI, 5, .inl (fun _ => 0))) :: (m0, .inr (4, mem1 p0)) :: (qm, .inl (cM, 8, .inr (.inr (.inr (.inr (va_up (va_up (va_up (va_up (va_up (va_up (va_up (va_up (fun _ => none) 0 (some m0)) 1 (some m1)) 2 (some m2)) 3 (some m3)) 4 (some m4)) 5 (some m5)) 6 (some m6)) 7 (some m7))))))) :: (b, .inr (0, [.ref qm, .null, .int 0, .int 0, .int 0, .int 0, .int 0, .int 0, .int 0])) :: wr) _ := hP
  have hD : va_D A ((p7, .inl (cI, 5, .inl (fun _ => 0))) :: (m7, .inr (4, mem1 p7)) :: (p6, .inl (cI, 5, .inl (fun _ => 0))) :: (m6, .inr (4, mem1 p6)) :: (p5, .inl (cI, 5, .inl (fun _ => 0))) :: (m5, .inr (4, mem1 p5)) :: (p4, .inl (cI, 5, .inl (fun _ => 0))) :: (m4, .inr (4, mem1 p4)) :: (p3, .inl (cI, 5, .inl (fun _ => 0))) :: (m3, .inr (4, mem1 p3)) :: (p2, .inl (cI, 5, .inl (fun _ => 0))) :: (m2, .inr (4, mem1 p2)) :: (p1, .inl (cI, 5, .inl (fun _ => 0))) :: (m1, .inr (4, mem1 p1)) :: (p0, .inl (cI, 5, .inl (fun _ => 0))) :: (m0, .inr (4, mem1 p0)) :: (qm, .inl (cM, 8, .inr (.inr (.inr (.inr (va_up (va_up (va_up (va_up (va_up (va_up (va_up (va_up (fun _ => none) 0 (some m0)) 1 (some m1)) 2 (some m2)) 3 (some m3)) 4 (some m4)) 5 (some m5)) 6 (some m6)) 7 (some m7))))))) :: (b, .inr (0, [.ref qm, .null, .int 0, .int 0, .int 0, .int 0, .int 0, .int 0, .int 0])) :: wr) := hD
  refine lv_iinc (v := 8) (lv' := [(1, .int 8), (0, .ref b)]) hx hb dX0_init_34 hl (k := 0) rfl (by decide) (by decide) rfl (fun ls hl => ?_)
  refine lv_goto (tgt := 15) hx hb dX0_init_37 (by decide) ?_
  refine lv_iload_n hx hb dX0_init_15 rfl (lv_at hl 0 rfl) ?_
  refine lv_bipush (v := 8) hx hb dX0_init_16 (by decide) ?_
  refine lv_icmp_ge (tgt := 40) hx hb dX0_init_18 (by decide) (fun _ => ?_) (fun c1 => absurd (by decide) c1)
  refine lv_aload_n hx hb dX0_init_40 rfl (lv_at hl 1 rfl) ?_
  refine lv_iconst (v := 5) hx hb dX0_init_41 (by decide) ?_
  refine va_newa (atype := .int) (a0 := (5, .inl (fun _ => 0))) (N' := 5) hx hb (hts _ qr_int) rfl hK hP hD hS hA (fun cA => rfl) (by decide) (by decide) (by decide) (Nat.le_of_ble_eq_true rfl) (Nat.le_of_ble_eq_true rfl) dX0_init_42 (fun qs cA H hK2 hP hD hS => ?_)
  have eA : cA = cI := ra_uniq (hK2.2 4 (cA, .int) rfl).2 (hK.2 0 _ rfl).2
  rw [eA] at hP hD
  have hP := front_P hP
  have hD := front_D hD
  refine va_putF (v := .ref qs) (ty := .array .int) hx hb hts inTX0 tyX0 tyX0_ok nmX0 hown hK hP hD hS 18 rfl rfl 1 (by decide) (hts _ qf_X0_18) (fun _ h9 => h9) rfl hin rfl (by decide +kernel) rfl rfl (Nat.le_of_ble_eq_true rfl) dX0_init_44 (fun H locs hP hD hS => ?_)
  have hP : va_P D vwCl ((qs, .inl (cI, 5, .inl (fun _ => 0))) :: (p7, .inl (cI, 5, .inl (fun _ => 0))) :: (m7, .inr (4, mem1 p7)) :: (p6, .inl (cI, 5, .inl (fun _ => 0))) :: (m6, .inr (4, mem1 p6)) :: (p5, .inl (cI, 5, .inl (fun _ => 0))) :: (m5, .inr (4, mem1 p5)) :: (p4, .inl (cI, 5, .inl (fun _ => 0))) :: (m4, .inr (4, mem1 p4)) :: (p3, .inl (cI, 5, .inl (fun _ => 0))) :: (m3, .inr (4, mem1 p3)) :: (p2, .inl (cI, 5, .inl (fun _ => 0))) :: (m2, .inr (4, mem1 p2)) :: (p1, .inl (cI, 5, .inl (fun _ => 0))) :: (m1, .inr (4, mem1 p1)) :: (p0, .inl (cI, 5, .inl (fun _ => 0))) :: (m0, .inr (4, mem1 p0)) :: (qm, .inl (cM, 8, .inr (.inr (.inr (.inr (va_up (va_up (va_up (va_up (va_up (va_up (va_up (va_up (fun _ => none) 0 (some m0)) 1 (some m1)) 2 (some m2)) 3 (some m3)) 4 (some m4)) 5 (some m5)) 6 (some m6)) 7 (some m7))))))) :: (b, .inr (0, [.ref qm, .ref qs, .int 0, .int 0, .int 0, .int 0, .int 0, .int 0, .int 0])) :: wr) _ := hP
  have hD : va_D A ((qs, .inl (cI, 5, .inl (fun _ => 0))) :: (p7, .inl (cI, 5, .inl (fun _ => 0))) :: (m7, .inr (4, mem1 p7)) :: (p6, .inl (cI, 5, .inl (fun _ => 0))) :: (m6, .inr (4, mem1 p6)) :: (p5, .inl (cI, 5, .inl (fun _ => 0))) :: (m5, .inr (4, mem1 p5)) :: (p4, .inl (cI, 5, .inl (fun _ => 0))) :: (m4, .inr (4, mem1 p4)) :: (p3, .inl (cI, 5, .inl (fun _ => 0))) :: (m3, .inr (4, mem1 p3)) :: (p2, .inl (cI, 5, .inl (fun _ => 0))) :: (m2, .inr (4, mem1 p2)) :: (p1, .inl (cI, 5, .inl (fun _ => 0))) :: (m1, .inr (4, mem1 p1)) :: (p0, .inl (cI, 5, .inl (fun _ => 0))) :: (m0, .inr (4, mem1 p0)) :: (qm, .inl (cM, 8, .inr (.inr (.inr (.inr (va_up (va_up (va_up (va_up (va_up (va_up (va_up (va_up (fun _ => none) 0 (some m0)) 1 (some m1)) 2 (some m2)) 3 (some m3)) 4 (some m4)) 5 (some m5)) 6 (some m6)) 7 (some m7))))))) :: (b, .inr (0, [.ref qm, .ref qs, .int 0, .int 0, .int 0, .int 0, .int 0, .int 0, .int 0])) :: wr) := hD
  refine lv_iconst (v := 0) hx hb dX0_init_47 (by decide) ?_
  refine lv_istore_n (lv' := [(1, .int 0), (0, .ref b)]) hx hb dX0_init_48 rfl hl (by decide) rfl (fun ls hl => ?_)
  refine lv_iload_n hx hb dX0_init_49 rfl (lv_at hl 0 rfl) ?_
  refine lv_iconst (v := 5) hx hb dX0_init_50 (by decide) ?_
  refine lv_icmp_ge (tgt := 71) hx hb dX0_init_51 (by decide) (fun c1 => absurd c1 (by decide)) (fun _ => ?_)
  refine lv_aload_n hx hb dX0_init_54 rfl (lv_at hl 1 rfl) ?_
  refine va_get (v := .ref qs) hx hb hts inTX0 hown hK hP 18 rfl rfl 1 (by decide) (hts _ qf_X0_18) (fun _ h9 => h9) rfl dX0_init_55 ?_
  refine lv_iload_n hx hb dX0_init_58 rfl (lv_at hl 0 rfl) ?_
  refine va_getsN hx hb hz hS hown (hN.1.use rfl) (fun _ h9 => h9) dX0_init_59 ?_
  refine lv_iload_n hx hb dX0_init_62 rfl (lv_at hl 0 rfl) ?_
  refine va_ti (v := .int 600) hx hb ht hS (show ¬ ((0 : Int32) < 0 ∨ 5 ≤ (0 : Int32).toNatClampNeg) by decide) rfl dX0_init_63 ?_
  refine z_iast (ws2 := (qs, .inl (cI, 5, .inl (upd (fun _ => 0) 0 600))) :: (p7, .inl (cI, 5, .inl (fun _ => 0))) :: (m7, .inr (4, mem1 p7)) :: (p6, .inl (cI, 5, .inl (fun _ => 0))) :: (m6, .inr (4, mem1 p6)) :: (p5, .inl (cI, 5, .inl (fun _ => 0))) :: (m5, .inr (4, mem1 p5)) :: (p4, .inl (cI, 5, .inl (fun _ => 0))) :: (m4, .inr (4, mem1 p4)) :: (p3, .inl (cI, 5, .inl (fun _ => 0))) :: (m3, .inr (4, mem1 p3)) :: (p2, .inl (cI, 5, .inl (fun _ => 0))) :: (m2, .inr (4, mem1 p2)) :: (p1, .inl (cI, 5, .inl (fun _ => 0))) :: (m1, .inr (4, mem1 p1)) :: (p0, .inl (cI, 5, .inl (fun _ => 0))) :: (m0, .inr (4, mem1 p0)) :: (qm, .inl (cM, 8, .inr (.inr (.inr (.inr (va_up (va_up (va_up (va_up (va_up (va_up (va_up (va_up (fun _ => none) 0 (some m0)) 1 (some m1)) 2 (some m2)) 3 (some m3)) 4 (some m4)) 5 (some m5)) 6 (some m6)) 7 (some m7))))))) :: (b, .inr (0, [.ref qm, .ref qs, .int 0, .int 0, .int 0, .int 0, .int 0, .int 0, .int 0])) :: wr) hx hb hK hP hD hS 0 0 rfl rfl (show ¬ ((0 : Int32) < 0 ∨ 5 ≤ (0 : Int32).toNatClampNeg) by decide) dX0_init_64 rfl (fun H locs hP hD hS => ?_)
  refine lv_iinc (v := 1) (lv' := [(1, .int 1), (0, .ref b)]) hx hb dX0_init_65 hl (k := 0) rfl (by decide) (by decide) rfl (fun ls hl => ?_)
  refine lv_goto (tgt := 49) hx hb dX0_init_68 (by decide) ?_
  refine lv_iload_n hx hb dX0_init_49 rfl (lv_at hl 0 rfl) ?_
  refine lv_iconst (v := 5) hx hb dX0_init_50 (by decide) ?_
  refine lv_icmp_ge (tgt := 71) hx hb dX0_init_51 (by decide) (fun c1 => absurd c1 (by decide)) (fun _ => ?_)
  refine lv_aload_n hx hb dX0_init_54 rfl (lv_at hl 1 rfl) ?_
  refine va_get (v := .ref qs) hx hb hts inTX0 hown hK hP 18 rfl rfl 1 (by decide) (hts _ qf_X0_18) (fun _ h9 => h9) rfl dX0_init_55 ?_
  refine lv_iload_n hx hb dX0_init_58 rfl (lv_at hl 0 rfl) ?_
  refine va_getsN hx hb hz hS hown (hN.1.use rfl) (fun _ h9 => h9) dX0_init_59 ?_
  refine lv_iload_n hx hb dX0_init_62 rfl (lv_at hl 0 rfl) ?_
  refine va_ti (v := .int 120) hx hb ht hS (show ¬ ((1 : Int32) < 0 ∨ 5 ≤ (1 : Int32).toNatClampNeg) by decide) rfl dX0_init_63 ?_
  refine z_iast (ws2 := (qs, .inl (cI, 5, .inl (upd (upd (fun _ => 0) 0 600) 1 120))) :: (p7, .inl (cI, 5, .inl (fun _ => 0))) :: (m7, .inr (4, mem1 p7)) :: (p6, .inl (cI, 5, .inl (fun _ => 0))) :: (m6, .inr (4, mem1 p6)) :: (p5, .inl (cI, 5, .inl (fun _ => 0))) :: (m5, .inr (4, mem1 p5)) :: (p4, .inl (cI, 5, .inl (fun _ => 0))) :: (m4, .inr (4, mem1 p4)) :: (p3, .inl (cI, 5, .inl (fun _ => 0))) :: (m3, .inr (4, mem1 p3)) :: (p2, .inl (cI, 5, .inl (fun _ => 0))) :: (m2, .inr (4, mem1 p2)) :: (p1, .inl (cI, 5, .inl (fun _ => 0))) :: (m1, .inr (4, mem1 p1)) :: (p0, .inl (cI, 5, .inl (fun _ => 0))) :: (m0, .inr (4, mem1 p0)) :: (qm, .inl (cM, 8, .inr (.inr (.inr (.inr (va_up (va_up (va_up (va_up (va_up (va_up (va_up (va_up (fun _ => none) 0 (some m0)) 1 (some m1)) 2 (some m2)) 3 (some m3)) 4 (some m4)) 5 (some m5)) 6 (some m6)) 7 (some m7))))))) :: (b, .inr (0, [.ref qm, .ref qs, .int 0, .int 0, .int 0, .int 0, .int 0, .int 0, .int 0])) :: wr) hx hb hK hP hD hS 0 0 rfl rfl (show ¬ ((1 : Int32) < 0 ∨ 5 ≤ (1 : Int32).toNatClampNeg) by decide) dX0_init_64 rfl (fun H locs hP hD hS => ?_)
  refine lv_iinc (v := 2) (lv' := [(1, .int 2), (0, .ref b)]) hx hb dX0_init_65 hl (k := 0) rfl (by decide) (by decide) rfl (fun ls hl => ?_)
  refine lv_goto (tgt := 49) hx hb dX0_init_68 (by decide) ?_
  refine lv_iload_n hx hb dX0_init_49 rfl (lv_at hl 0 rfl) ?_
  refine lv_iconst (v := 5) hx hb dX0_init_50 (by decide) ?_
  refine lv_icmp_ge (tgt := 71) hx hb dX0_init_51 (by decide) (fun c1 => absurd c1 (by decide)) (fun _ => ?_)
  refine lv_aload_n hx hb dX0_init_54 rfl (lv_at hl 1 rfl) ?_
  refine va_get (v := .ref qs) hx hb hts inTX0 hown hK hP 18 rfl rfl 1 (by decide) (hts _ qf_X0_18) (fun _ h9 => h9) rfl dX0_init_55 ?_
  refine lv_iload_n hx hb dX0_init_58 rfl (lv_at hl 0 rfl) ?_
  refine va_getsN hx hb hz hS hown (hN.1.use rfl) (fun _ h9 => h9) dX0_init_59 ?_
  refine lv_iload_n hx hb dX0_init_62 rfl (lv_at hl 0 rfl) ?_
  refine va_ti (v := .int 4) hx hb ht hS (show ¬ ((2 : Int32) < 0 ∨ 5 ≤ (2 : Int32).toNatClampNeg) by decide) rfl dX0_init_63 ?_
  refine z_iast (ws2 := (qs, .inl (cI, 5, .inl (upd (upd (upd (fun _ => 0) 0 600) 1 120) 2 4))) :: (p7, .inl (cI, 5, .inl (fun _ => 0))) :: (m7, .inr (4, mem1 p7)) :: (p6, .inl (cI, 5, .inl (fun _ => 0))) :: (m6, .inr (4, mem1 p6)) :: (p5, .inl (cI, 5, .inl (fun _ => 0))) :: (m5, .inr (4, mem1 p5)) :: (p4, .inl (cI, 5, .inl (fun _ => 0))) :: (m4, .inr (4, mem1 p4)) :: (p3, .inl (cI, 5, .inl (fun _ => 0))) :: (m3, .inr (4, mem1 p3)) :: (p2, .inl (cI, 5, .inl (fun _ => 0))) :: (m2, .inr (4, mem1 p2)) :: (p1, .inl (cI, 5, .inl (fun _ => 0))) :: (m1, .inr (4, mem1 p1)) :: (p0, .inl (cI, 5, .inl (fun _ => 0))) :: (m0, .inr (4, mem1 p0)) :: (qm, .inl (cM, 8, .inr (.inr (.inr (.inr (va_up (va_up (va_up (va_up (va_up (va_up (va_up (va_up (fun _ => none) 0 (some m0)) 1 (some m1)) 2 (some m2)) 3 (some m3)) 4 (some m4)) 5 (some m5)) 6 (some m6)) 7 (some m7))))))) :: (b, .inr (0, [.ref qm, .ref qs, .int 0, .int 0, .int 0, .int 0, .int 0, .int 0, .int 0])) :: wr) hx hb hK hP hD hS 0 0 rfl rfl (show ¬ ((2 : Int32) < 0 ∨ 5 ≤ (2 : Int32).toNatClampNeg) by decide) dX0_init_64 rfl (fun H locs hP hD hS => ?_)
  refine lv_iinc (v := 3) (lv' := [(1, .int 3), (0, .ref b)]) hx hb dX0_init_65 hl (k := 0) rfl (by decide) (by decide) rfl (fun ls hl => ?_)
  refine lv_goto (tgt := 49) hx hb dX0_init_68 (by decide) ?_
  refine lv_iload_n hx hb dX0_init_49 rfl (lv_at hl 0 rfl) ?_
  refine lv_iconst (v := 5) hx hb dX0_init_50 (by decide) ?_
  refine lv_icmp_ge (tgt := 71) hx hb dX0_init_51 (by decide) (fun c1 => absurd c1 (by decide)) (fun _ => ?_)
  refine lv_aload_n hx hb dX0_init_54 rfl (lv_at hl 1 rfl) ?_
  refine va_get (v := .ref qs) hx hb hts inTX0 hown hK hP 18 rfl rfl 1 (by decide) (hts _ qf_X0_18) (fun _ h9 => h9) rfl dX0_init_55 ?_
  refine lv_iload_n hx hb dX0_init_58 rfl (lv_at hl 0 rfl) ?_
  refine va_getsN hx hb hz hS hown (hN.1.use rfl) (fun _ h9 => h9) dX0_init_59 ?_
  refine lv_iload_n hx hb dX0_init_62 rfl (lv_at hl 0 rfl) ?_
  refine va_ti (v := .int 10) hx hb ht hS (show ¬ ((3 : Int32) < 0 ∨ 5 ≤ (3 : Int32).toNatClampNeg) by decide) rfl dX0_init_63 ?_
  refine z_iast (ws2 := (qs, .inl (cI, 5, .inl (upd (upd (upd (upd (fun _ => 0) 0 600) 1 120) 2 4) 3 10))) :: (p7, .inl (cI, 5, .inl (fun _ => 0))) :: (m7, .inr (4, mem1 p7)) :: (p6, .inl (cI, 5, .inl (fun _ => 0))) :: (m6, .inr (4, mem1 p6)) :: (p5, .inl (cI, 5, .inl (fun _ => 0))) :: (m5, .inr (4, mem1 p5)) :: (p4, .inl (cI, 5, .inl (fun _ => 0))) :: (m4, .inr (4, mem1 p4)) :: (p3, .inl (cI, 5, .inl (fun _ => 0))) :: (m3, .inr (4, mem1 p3)) :: (p2, .inl (cI, 5, .inl (fun _ => 0))) :: (m2, .inr (4, mem1 p2)) :: (p1, .inl (cI, 5, .inl (fun _ => 0))) :: (m1, .inr (4, mem1 p1)) :: (p0, .inl (cI, 5, .inl (fun _ => 0))) :: (m0, .inr (4, mem1 p0)) :: (qm, .inl (cM, 8, .inr (.inr (.inr (.inr (va_up (va_up (va_up (va_up (va_up (va_up (va_up (va_up (fun _ => none) 0 (some m0)) 1 (some m1)) 2 (some m2)) 3 (some m3)) 4 (some m4)) 5 (some m5)) 6 (some m6)) 7 (some m7))))))) :: (b, .inr (0, [.ref qm, .ref qs, .int 0, .int 0, .int 0, .int 0, .int 0, .int 0, .int 0])) :: wr) hx hb hK hP hD hS 0 0 rfl rfl (show ¬ ((3 : Int32) < 0 ∨ 5 ≤ (3 : Int32).toNatClampNeg) by decide) dX0_init_64 rfl (fun H locs hP hD hS => ?_)
  refine lv_iinc (v := 4) (lv' := [(1, .int 4), (0, .ref b)]) hx hb dX0_init_65 hl (k := 0) rfl (by decide) (by decide) rfl (fun ls hl => ?_)
  refine lv_goto (tgt := 49) hx hb dX0_init_68 (by decide) ?_
  refine lv_iload_n hx hb dX0_init_49 rfl (lv_at hl 0 rfl) ?_
  refine lv_iconst (v := 5) hx hb dX0_init_50 (by decide) ?_
  refine lv_icmp_ge (tgt := 71) hx hb dX0_init_51 (by decide) (fun c1 => absurd c1 (by decide)) (fun _ => ?_)
  refine lv_aload_n hx hb dX0_init_54 rfl (lv_at hl 1 rfl) ?_
  refine va_get (v := .ref qs) hx hb hts inTX0 hown hK hP 18 rfl rfl 1 (by decide) (hts _ qf_X0_18) (fun _ h9 => h9) rfl dX0_init_55 ?_
  refine lv_iload_n hx hb dX0_init_58 rfl (lv_at hl 0 rfl) ?_
  refine va_getsN hx hb hz hS hown (hN.1.use rfl) (fun _ h9 => h9) dX0_init_59 ?_
  refine lv_iload_n hx hb dX0_init_62 rfl (lv_at hl 0 rfl) ?_
  refine va_ti (v := .int 30) hx hb ht hS (show ¬ ((4 : Int32) < 0 ∨ 5 ≤ (4 : Int32).toNatClampNeg) by decide) rfl dX0_init_63 ?_
  refine z_iast (ws2 := (qs, .inl (cI, 5, .inl (upd (upd (upd (upd (upd (fun _ => 0) 0 600) 1 120) 2 4) 3 10) 4 30))) :: (p7, .inl (cI, 5, .inl (fun _ => 0))) :: (m7, .inr (4, mem1 p7)) :: (p6, .inl (cI, 5, .inl (fun _ => 0))) :: (m6, .inr (4, mem1 p6)) :: (p5, .inl (cI, 5, .inl (fun _ => 0))) :: (m5, .inr (4, mem1 p5)) :: (p4, .inl (cI, 5, .inl (fun _ => 0))) :: (m4, .inr (4, mem1 p4)) :: (p3, .inl (cI, 5, .inl (fun _ => 0))) :: (m3, .inr (4, mem1 p3)) :: (p2, .inl (cI, 5, .inl (fun _ => 0))) :: (m2, .inr (4, mem1 p2)) :: (p1, .inl (cI, 5, .inl (fun _ => 0))) :: (m1, .inr (4, mem1 p1)) :: (p0, .inl (cI, 5, .inl (fun _ => 0))) :: (m0, .inr (4, mem1 p0)) :: (qm, .inl (cM, 8, .inr (.inr (.inr (.inr (va_up (va_up (va_up (va_up (va_up (va_up (va_up (va_up (fun _ => none) 0 (some m0)) 1 (some m1)) 2 (some m2)) 3 (some m3)) 4 (some m4)) 5 (some m5)) 6 (some m6)) 7 (some m7))))))) :: (b, .inr (0, [.ref qm, .ref qs, .int 0, .int 0, .int 0, .int 0, .int 0, .int 0, .int 0])) :: wr) hx hb hK hP hD hS 0 0 rfl rfl (show ¬ ((4 : Int32) < 0 ∨ 5 ≤ (4 : Int32).toNatClampNeg) by decide) dX0_init_64 rfl (fun H locs hP hD hS => ?_)
  refine lv_iinc (v := 5) (lv' := [(1, .int 5), (0, .ref b)]) hx hb dX0_init_65 hl (k := 0) rfl (by decide) (by decide) rfl (fun ls hl => ?_)
  refine lv_goto (tgt := 49) hx hb dX0_init_68 (by decide) ?_
  refine lv_iload_n hx hb dX0_init_49 rfl (lv_at hl 0 rfl) ?_
  refine lv_iconst (v := 5) hx hb dX0_init_50 (by decide) ?_
  refine lv_icmp_ge (tgt := 71) hx hb dX0_init_51 (by decide) (fun _ => ?_) (fun c1 => absurd (by decide) c1)
  refine lv_aload_n hx hb dX0_init_71 rfl (lv_at hl 1 rfl) ?_
  refine lv_iconst (v := (-1)) hx hb dX0_init_72 (by decide) ?_
  refine z_put (v := .int (-1)) (ty := .int) (ws2 := (qs, .inl (cI, 5, .inl (upd (upd (upd (upd (upd (fun _ => 0) 0 600) 1 120) 2 4) 3 10) 4 30))) :: (p7, .inl (cI, 5, .inl (fun _ => 0))) :: (m7, .inr (4, mem1 p7)) :: (p6, .inl (cI, 5, .inl (fun _ => 0))) :: (m6, .inr (4, mem1 p6)) :: (p5, .inl (cI, 5, .inl (fun _ => 0))) :: (m5, .inr (4, mem1 p5)) :: (p4, .inl (cI, 5, .inl (fun _ => 0))) :: (m4, .inr (4, mem1 p4)) :: (p3, .inl (cI, 5, .inl (fun _ => 0))) :: (m3, .inr (4, mem1 p3)) :: (p2, .inl (cI, 5, .inl (fun _ => 0))) :: (m2, .inr (4, mem1 p2)) :: (p1, .inl (cI, 5, .inl (fun _ => 0))) :: (m1, .inr (4, mem1 p1)) :: (p0, .inl (cI, 5, .inl (fun _ => 0))) :: (m0, .inr (4, mem1 p0)) :: (qm, .inl (cM, 8, .inr (.inr (.inr (.inr (va_up (va_up (va_up (va_up (va_up (va_up (va_up (va_up (fun _ => none) 0 (some m0)) 1 (some m1)) 2 (some m2)) 3 (some m3)) 4 (some m4)) 5 (some m5)) 6 (some m6)) 7 (some m7))))))) :: (b, .inr (0, [.ref qm, .ref qs, .int 0, .int 0, .int 0, .int 0, .int 0, .int (-1), .int 0])) :: wr) hx hb hts inTX0 tyX0 tyX0_ok nmX0 hown hK hP hD hS 18 rfl rfl 7 (by decide) (hts _ qf_X0_25) (fun _ h9 => h9) rfl (by decide +kernel) rfl rfl (Nat.le_of_ble_eq_true rfl) dX0_init_73 rfl (fun H locs hP hD hS => ?_)
  let ad : Nat → Nat := fun i => ([b, qm, qs, m0, m1, m2, m3, m4, m5, m6, m7, p0, p1, p2, p3, p4, p5, p6, p7] : List Nat).getD i 0
  have hP := va_P_perm (bk_perm _ _ _ _ _ _ _ _ _ _ _ _ _ _ _ _ _ _ _ wr) hP
  have hD := va_D_perm (bk_perm _ _ _ _ _ _ _ _ _ _ _ _ _ _ _ _ _ _ _ wr) hD
  have hP := va_P_cell (w1 := [(b, .inr (0, [.ref qm, .ref qs, .int 0, .int 0, .int 0, .int 0, .int 0, .int (-1), .int 0]))]) (a := qm) (x := (cM, 8, .inr (.inr (.inr (.inr (va_up (va_up (va_up (va_up (va_up (va_up (va_up (va_up (fun _ => none) 0 (some m0)) 1 (some m1)) 2 (some m2)) 3 (some m3)) 4 (some m4)) 5 (some m5)) 6 (some m6)) 7 (some m7))))))) (y := (cM, 8, .inr (.inr (.inr (.inr (fun i => some (ad (3 + i)))))))) (q_congr (fun j hj => by rcases (show j = 0 ∨ j = 1 ∨ j = 2 ∨ j = 3 ∨ j = 4 ∨ j = 5 ∨ j = 6 ∨ j = 7 by omega) with rfl | rfl | rfl | rfl | rfl | rfl | rfl | rfl <;> rfl)) hP
  have hD := va_D_cell (w1 := [(b, .inr (0, [.ref qm, .ref qs, .int 0, .int 0, .int 0, .int 0, .int 0, .int (-1), .int 0]))]) (a := qm) (y := .inl (cM, 8, .inr (.inr (.inr (.inr (fun i => some (ad (3 + i)))))))) hD
  have hP := va_P_cell (w1 := [(b, .inr (0, [.ref qm, .ref qs, .int 0, .int 0, .int 0, .int 0, .int 0, .int (-1), .int 0])), (qm, .inl (cM, 8, .inr (.inr (.inr (.inr (fun i => some (ad (3 + i))))))))]) (a := qs) (x := (cI, 5, .inl (upd (upd (upd (upd (upd (fun _ => 0) 0 600) 1 120) 2 4) 3 10) 4 30))) (y := (cI, 5, .inl (sfn zI0))) (i_congr (fun j hj => by rcases (show j = 0 ∨ j = 1 ∨ j = 2 ∨ j = 3 ∨ j = 4 by omega) with rfl | rfl | rfl | rfl | rfl <;> rfl)) hP
  have hD := va_D_cell (w1 := [(b, .inr (0, [.ref qm, .ref qs, .int 0, .int 0, .int 0, .int 0, .int 0, .int (-1), .int 0])), (qm, .inl (cM, 8, .inr (.inr (.inr (.inr (fun i => some (ad (3 + i))))))))]) (a := qs) (y := .inl (cI, 5, .inl (sfn zI0))) hD
  have hw : ((b, .inr (0, [.ref qm, .ref qs, .int 0, .int 0, .int 0, .int 0, .int 0, .int (-1), .int 0])) :: (qm, .inl (cM, 8, .inr (.inr (.inr (.inr (fun i => some (ad (3 + i)))))))) :: (qs, .inl (cI, 5, .inl (sfn zI0))) :: (m0, .inr (4, mem1 p0)) :: (m1, .inr (4, mem1 p1)) :: (m2, .inr (4, mem1 p2)) :: (m3, .inr (4, mem1 p3)) :: (m4, .inr (4, mem1 p4)) :: (m5, .inr (4, mem1 p5)) :: (m6, .inr (4, mem1 p6)) :: (m7, .inr (4, mem1 p7)) :: (p0, .inl (cI, 5, .inl (fun _ => 0))) :: (p1, .inl (cI, 5, .inl (fun _ => 0))) :: (p2, .inl (cI, 5, .inl (fun _ => 0))) :: (p3, .inl (cI, 5, .inl (fun _ => 0))) :: (p4, .inl (cI, 5, .inl (fun _ => 0))) :: (p5, .inl (cI, 5, .inl (fun _ => 0))) :: (p6, .inl (cI, 5, .inl (fun _ => 0))) :: (p7, .inl (cI, 5, .inl (fun _ => 0))) :: wr : va_W) = bkW cI cM ad zI0 wr := by
    simp only [bkW, bkL, bkM, bkP, pfn_I]
    rfl
  exact z_vretI hx hb hr hlocks hP hD hK hS ⟨ad, rfl, hw⟩ dX0_init_76
end XI
