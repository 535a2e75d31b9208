/-! The law, from its entry. -/
theorem z0_at {k : Nat} (h : 10 < k) : zI0 k = 0 := by
  unfold zI0
  rw [if_neg (by omega), if_neg (by omega), if_neg (by omega), if_neg (by omega), if_neg (by omega), if_neg (by omega)]
theorem z0_bool : hBool zI0 := fun i hi => by
  rw [z0_at (by omega), z0_at (by omega)]
  exact ⟨Or.inl rfl, Or.inl rfl⟩
theorem z0_ok : rOK 1 0 zI0 := by
  have h0 : (0 : Int32).toInt = 0 := by decide
  refine ⟨by decide, by decide, z0_bool, fun k hk => ?_, fun j _ hj => z0_at (by omega), Or.inl ⟨by decide, fun j hj => z0_at (by omega)⟩, ⟨by unfold bt; decide, by unfold bt; decide, by unfold bt; decide, by unfold bt; decide, by unfold bt; decide⟩, fun j hj => ?_⟩
  · rw [z0_at (k := 12) (by decide), z0_at (k := 13) (by decide), z0_at (k := 142 + k) (by omega)]
    exact lt8 (P := fun k => ((0 : Int32) >>> (nI k &&& 31)) &&& 1 = (if (0 : Int32) = 1 then 1 else 0) ∧ ((0 : Int32) >>> (nI k &&& 31)) &&& 1 = (if (0 : Int32) = 2 then 1 else 0)) (by decide) (by decide) (by decide) (by decide) (by decide) (by decide) (by decide) (by decide) hk
  · unfold mOK
    rw [z0_at (k := 14 + 16 * j + 1) (by omega), z0_at (k := 14 + 16 * j + 2) (by omega), z0_at (k := 14 + 16 * j + 5) (by omega), z0_at (k := 14 + 16 * j + 7) (by omega)]
    refine ⟨fun k hk => ?_, ?_, ?_, ?_, Int.le_refl _, ?_⟩
    · rw [z0_at (by omega)]; unfold bt; rw [h0]; omega
    · unfold bt; rw [h0]; omega
    · unfold bt; rw [h0]; omega
    · unfold bt; rw [h0]; omega
    · rw [h0]; omega
theorem lw_permS {cI cC cM cB : ClassId} {ad t : Nat → Nat} {x : Nat} {h : Nat → Nat} {ah : Nat → Nat → Nat} {q : Nat → Nat} {z zm : Nat → Int32} {zh : Nat → Nat → Int32} {sg r hi tx pa ke mr : Nat → Int32} {sz nx kp : Int32} {hs : Int64} {u : Nat × va_E} : List.Perm (moW cI q zm hi tx pa ke mr hs (xw0 cI cC cM cB ad z t sg sz r x h ah nx kp zh []) ++ [u]) (xw0 cI cC cM cB ad z t sg sz r x h ah nx kp zh (u :: moW cI q zm hi tx pa ke mr hs [])) := by
  have e1 : moW cI q zm hi tx pa ke mr hs (xw0 cI cC cM cB ad z t sg sz r x h ah nx kp zh []) ++ [u] = moW cI q zm hi tx pa ke mr hs (xw0 cI cC cM cB ad z t sg sz r x h ah nx kp zh [u]) := rfl
  rw [e1]
  exact lw_perm.symm
set_option maxHeartbeats 4000000 in
set_option maxRecDepth 100000 in
/-- YOUR PART: from the entry, for every script of at most 2560 ints, the law comes to its end with true ('hflags': the launch's flags, for a law that throws: no stack traces) -/
theorem whole_start {p : Program} {e : Env} {s : State} {m : MethodId} {below : List Frame} {meth : Method} {c : Code} (l : Launch) (hflags : l.flags = flags0) {b L : Nat} {xs : Nat → Int32} (hL : L ≤ 2560) (C0 : lw_At p s m meth c b L xs) : W p l e room_1 s m #[Value.ref b] below meth c s.heap [] 0 0 (lw_Z below #[Value.ref b] s) (entryFrame m ([Value.ref b] : List Value).toArray 9) := by
  have hfl : l.stackTraces = false := by unfold Launch.stackTraces; rw [hflags]; decide +kernel
  obtain ⟨D, cI, cC, cM, cB, cJ, E, hF⟩ := st_env C0
  obtain ⟨⟨hx, hb, hr, hml, hown, htb, hX, hbl, hlocks, hgv⟩, hCn, hJ, hN, hK⟩ := id E
  have S : CallFix p m c code 9 s #[Value.ref b] TT RL := ⟨hx, hb, hml, hown, fun w hw => htb w (tt_in hw)⟩
  have hts : ∀ w ∈ TT, w.before #[Value.ref b] s = true := fun w hw => htb w (tt_in hw)
  have hA : ∀ q : Nat, s.heap.size ≤ q → (fun q : Nat => s.heap.size ≤ q) q := fun _ h => h
  have hS : va_S (fun q : Nat => s.heap.size ≤ q) s.heap s.heap [] := va_S.rf
  have hP : va_P D vwCl [] s.heap := fun k q h => by simp at h
  have hD : va_D (fun q : Nat => s.heap.size ≤ q) [] := ⟨fun i j p q h => by simp at h, fun k q h => by simp at h⟩
  have hl := lv_entry ([.ref b]) (n := 9) (Nat.le_of_ble_eq_true rfl)
  rw [lg_entry_eq]
  generalize (lg_sl ([.ref b]) ++ List.replicate (9 - (lg_sl ([.ref b])).length) Slot.unset).toArray = ls at hl ⊢
  have hl : lv_has ls 9 [(0, .ref b)] := hl
  refine va_new (ci := 5) (fs := [.null, .null, .null]) hx hb hts inTX5 tyX5 tyX5_ok hown (hts _ qk_L_8) (hts _ qa_X5) (hts _ qn_X5) hK hP hD hS hA rfl (fun j hj => by rcases (show j = 0 ∨ j = 1 ∨ j = 2 by omega) with rfl | rfl | rfl <;> rfl) (Nat.le_of_ble_eq_true rfl) (Nat.le_of_ble_eq_true rfl) dL_law_0 (fun x H hP hD hS => ?_)
  have hP : va_P D vwCl ((x, .inr (5, [.null, .null, .null])) :: []) H := hP
  have hD : va_D (fun q : Nat => s.heap.size ≤ q) ((x, .inr (5, [.null, .null, .null])) :: []) := hD
  refine lv_dup hx hb dL_law_3 rfl ?_
  refine z_callC (rest := [.ref x]) S (c_X5_init (l := l) (D := D) (cI := cI) (cC := cC) (cM := cM) (cB := cB) (cJ := cJ) (wr := []) x) qm_L_84 ⟨⟨qi_X5_init, qn_X5, qc_X5_init⟩, rfl, by decide, by decide, by decide +kernel⟩ ⟨Nat.le_of_ble_eq_true rfl, Nat.le_of_ble_eq_true rfl⟩ rfl rfl hF hN hK hP hD hS hA hl.1 rfl (Nat.le_of_ble_eq_true rfl) dL_law_4 ⟨Nat.le_of_ble_eq_true rfl, Nat.le_of_ble_eq_true rfl⟩ (fun w2 H locs hG hP hD hS => ?_)
  obtain ⟨ad, t, h, ah, rfl⟩ := hG
  refine lv_astore_n (lv' := [(1, .ref x), (0, .ref b)]) hx hb dL_law_7 rfl hl (by decide) rfl (fun ls hl => ?_)
  refine va_new (ci := 6) (fs := [.null, .int 0, .null, .int 0, .null, .int 0, .null, .int 0, .int 0, .int 0, .null, .long 0]) hx hb hts inTX6 tyX6 tyX6_ok hown (hts _ qk_L_85) (hts _ qa_X6) (hts _ qn_X6) hK hP hD hS hA rfl (fun j hj => by rcases (show j = 0 ∨ j = 1 ∨ j = 2 ∨ j = 3 ∨ j = 4 ∨ j = 5 ∨ j = 6 ∨ j = 7 ∨ j = 8 ∨ j = 9 ∨ j = 10 ∨ j = 11 by omega) with rfl | rfl | rfl | rfl | rfl | rfl | rfl | rfl | rfl | rfl | rfl | rfl <;> rfl) (Nat.le_of_ble_eq_true rfl) (Nat.le_of_ble_eq_true rfl) dL_law_8 (fun y H hP hD hS => ?_)
  have hP := front_P hP
  have hD := front_D hD
  refine lv_dup hx hb dL_law_11 rfl ?_
  refine z_callC (rest := [.ref y]) S (c_X6_init (l := l) (D := D) (cI := cI) (cC := cC) (cM := cM) (cB := cB) (cJ := cJ) (wr := xw0 cI cC cM cB ad zI0 t (fun _ => 0) 0 (fun _ => 0) x h ah 0 0 (fun _ => zI0) []) y) qm_L_87 ⟨⟨qi_X6_init, qn_X6, qc_X6_init⟩, rfl, by decide, by decide, by decide +kernel⟩ ⟨Nat.le_of_ble_eq_true rfl, Nat.le_of_ble_eq_true rfl⟩ rfl rfl hF hN hK hP hD hS hA hl.1 rfl (Nat.le_of_ble_eq_true rfl) dL_law_12 ⟨Nat.le_of_ble_eq_true rfl, Nat.le_of_ble_eq_true rfl⟩ (fun w2 H locs hG hP hD hS => ?_)
  obtain ⟨q, rfl, rfl⟩ := hG
  refine lv_astore_n (lv' := [(2, .ref (q 0)), (1, .ref x), (0, .ref b)]) hx hb dL_law_15 rfl hl (by decide) rfl (fun ls hl => ?_)
  refine lv_iconst (v := 1) hx hb dL_law_16 (by decide) ?_
  refine va_newa (atype := .long) (a0 := (1, .inr (.inl (fun _ => 0)))) (N' := 1) hx hb (hts _ qr_long) rfl hK hP hD hS hA (fun cA => rfl) (by decide) (by decide) (by decide) (Nat.le_of_ble_eq_true rfl) (Nat.le_of_ble_eq_true rfl) dL_law_17 (fun o cA H hK2 hP hD hS => ?_)
  have eA : cA = cJ := ra_uniq (hK2.2 5 (cA, .long) rfl).2 (hK.2 4 _ rfl).2
  rw [eA] at hP hD
  have hP := va_P_perm lw_permS hP
  have hD := va_D_perm lw_permS hD
  refine lv_astore_n (lv' := [(3, .ref o), (2, .ref (q 0)), (1, .ref x), (0, .ref b)]) hx hb dL_law_19 rfl hl (by decide) rfl (fun ls hl => ?_)
  refine lv_iconst (v := 0) hx hb dL_law_20 (by decide) ?_
  refine lv_istore (lv' := [(4, .int 0), (3, .ref o), (2, .ref (q 0)), (1, .ref x), (0, .ref b)]) hx hb dL_law_21 hl (by decide) rfl (fun ls hl => ?_)
  refine W.widen (k := 200 + 0) (n := 3000 + 6 * 0) (Nat.le_of_ble_eq_true rfl) (Nat.le_of_ble_eq_true rfl) ?_
  exact law_loop E hfl hL 513 0 (by decide) (by decide) 0 zI0 (fun _ => zI0) 0 0 (fun _ => 0) (fun _ _ => 0) (fun _ => 0) 0 (fun _ => 0) (fun _ => 0) (fun _ => 0) (fun _ => 0) 0 (fun _ => 0) ⟨z0_ok, ⟨by decide, by decide, fun _ _ => z0_bool, fun s hs => absurd hs (Nat.not_lt_zero s)⟩, by decide, fun k hk => absurd hk (Nat.not_lt_zero k), rfl, rfl⟩ H locs ls hP hD hS (lv_sub hl [4, 3, 2, 1, 0] rfl)
