/-! The law, from its entry. -/
theorem z0_at {k : Nat} (h : 10 < k) : zI0 k = 0 := by
  unfold zI0
  rw [if_neg (by omega), if_neg (by omega), if_neg (by omega), if_neg (by omega), if_neg (by omega), if_neg (by omega)]
theorem z0_bool : hBool zI0 := fun i hi => by
  rw [z0_at (by omega), z0_at (by omega)]
  exact ⟨Or.inl rfl, Or.inl rfl⟩
theorem z0_ok : rOK 1 0 zI0 := by
  have h0 : (0 : Int32).toInt = 0 := by decide
  refine ⟨by decide, by decide, z0_bool, fun k hk => ?_, fun j _ hj => z0_at (by omega), Or.inl ⟨by decide, fun j hj => z0_at (by omega)⟩, ⟨by unfold bt; decide, by unfold bt; decide, by unfold bt; decide, by unfold bt; decide, by unfold bt; decide⟩, fun j hj => ?_⟩
  · rw [z0_at (k := 12) (by decide), z0_at (k := 13) (by decide), z0_at (k := 142 + k) (by omega)]
    exact lt8 (P := fun k => ((0 : Int32) >>> (nI k &&& 31)) &&& 1 = (if (0 : Int32) = 1 then 1 else 0) ∧ ((0 : Int32) >>> (nI k &&& 31)) &&& 1 = (if (0 : Int32) = 2 then 1 else 0)) (by decide) (by decide) (by decide) (by decide) (by decide) (by decide) (by decide) (by decide) hk
  · unfold mOK
    rw [z0_at (k := 14 + 16 * j + 1) (by omega), z0_at (k := 14 + 16 * j + 2) (by omega), z0_at (k := 14 + 16 * j + 5) (by omega), z0_at (k := 14 + 16 * j + 7) (by omega)]
    refine ⟨fun k hk => ?_, ?_, ?_, ?_, Int.le_refl _, ?_⟩
    · rw [z0_at (by omega)]; unfold bt; rw [h0]; omega
    · unfold bt; rw [h0]; omega
    · unfold bt; rw [h0]; omega
    · unfold bt; rw [h0]; omega
    · rw [h0]; omega
theorem z0_pI : pI 0 0 zI0 0 0 := ⟨z0_ok, by decide, by decide, by decide, by decide, ⟨0, by decide, by decide⟩, by unfold smS; decide⟩
theorem z0_row (q : Nat) : (upd (upd (upd (upd (upd (upd (fun _ => 0) 0 600) 1 120) 2 4) 3 10) 4 30) 10 (-1)) q = zI0 q := by
  by_cases h10 : q = 10
  · subst h10; rfl
  by_cases h4 : q = 4
  · subst h4; rfl
  by_cases h3 : q = 3
  · subst h3; rfl
  by_cases h2 : q = 2
  · subst h2; rfl
  by_cases h1 : q = 1
  · subst h1; rfl
  by_cases h0 : q = 0
  · subst h0; rfl
  rw [upd_ne h10, upd_ne h4, upd_ne h3, upd_ne h2, upd_ne h1, upd_ne h0]
  unfold zI0
  rw [if_neg h0, if_neg h1, if_neg h2, if_neg h3, if_neg h4, if_neg h10]
theorem lw_zero {cI cC cM cB : ClassId} {ad t h : Nat → Nat} {ah : Nat → Nat → Nat} {zh : Nat → Nat → Int32} {x na ma : Nat} {sg r z : Nat → Int32} {sz nx kp : Int32} : xw0 cI cC cM cB ad z t sg sz r x h ah nx kp zh [(na, .inl (cI, 15, .inl (fun _ => 0)))] ++ [(ma, .inl (cI, 64, .inl (fun _ => 0)))] = xw0 cI cC cM cB ad z t sg sz r x h ah nx kp zh (lwS cI na ma (fun _ => 0) 0 []) := by
  have e1 : nfn (fun _ => 0) 0 = fun _ => 0 := by
    funext k
    by_cases h15 : k < 15
    · by_cases h5 : k = 5
      · subst h5; rfl
      · rw [nfn_ix h15 h5]
    · obtain ⟨k, rfl⟩ : ∃ c, k = c + 15 := ⟨k - 15, by omega⟩
      rfl
  have e2 : mfn (fun _ => 0) = fun _ => 0 := by
    funext k; unfold mfn
    split <;> rfl
  rw [lwS, e1, e2, xw_app, List.append_assoc]
  exact xw_app.symm
set_option maxHeartbeats 8000000 in
set_option maxRecDepth 100000 in
theorem law_loop {p : Program} {l : Launch} {e : Env} {s : State} {m : MethodId} {below : List Frame} {meth : Method} {c : Code} {b L : Nat} {xs : Nat → Int32} {D : va_G} {cI cC cM cB cJ : ClassId} {ad t : Nat → Nat} {sg r : Nat → Int32} {sz : Int32} {x : Nat} {h : Nat → Nat} {ah : Nat → Nat → Nat} {na ma : Nat} (E : pwEnv p s m meth c b L xs D cI cC cM cB cJ) (hfl : l.stackTraces = false) (hL : L ≤ 260) : ∀ (f k : Nat), k + f = 60 → ∀ (n : Nat) (z : Nat → Int32) (zh : Nat → Nat → Int32) (nx kp : Nat), pI k n z nx kp → ∀ (Hp : Heap) (locs : List Loc) (ls : Array Slot), va_P D vwCl (xw0 cI cC cM cB ad z t sg sz r x h ah (nI nx) (nI kp) zh (lwS cI na ma z kp [])) Hp → va_D (fun q : Nat => s.heap.size ≤ q) (xw0 cI cC cM cB ad z t sg sz r x h ah (nI nx) (nI kp) zh (lwS cI na ma z kp [])) → va_S (fun q : Nat => s.heap.size ≤ q) s.heap Hp locs → lv_has ls 7 [(0, .ref b), (1, .ref x), (2, .ref na), (3, .ref ma), (4, .int (nI k))] → W p l e room_1 s m #[Value.ref b] below meth c Hp locs (300 + k) (4000 + 6 * k) (lw_Z below #[Value.ref b] s) (F0 m 56 ls []) := by
  obtain ⟨⟨hx, hb, hr, hml, hown, htb, hX, hbl, hlocks, hgv⟩, hJ, hN, hK⟩ := id E
  have S : CallFix p m c code 7 s #[Value.ref b] TT RL := ⟨hx, hb, hml, hown, fun w hw => htb w (tt_in hw)⟩
  have hA : ∀ q : Nat, s.heap.size ≤ q → (fun q : Nat => s.heap.size ≤ q) q := fun _ h => h
  have hbA : ¬ (fun q : Nat => s.heap.size ≤ q) b := Nat.not_le.mpr hbl
  intro f
  induction f with
  | zero =>
    intro k hf n z zh nx kp hI Hp locs ls hP hD hS hl
    have ek : 60 = k := by omega
    subst ek
    refine lv_iload hx hb dL_law_56 (lv_at hl 4 rfl) ?_
    refine lv_bipush (v := 60) hx hb dL_law_58 (by decide) ?_
    refine lv_icmp_ge (tgt := 154) hx hb dL_law_60 (by decide) (fun _ => ?_) (fun c9 => absurd (nI_le (a := 60) (b := 60) (by omega) (by omega)) c9)
    refine lv_iconst (v := 1) hx hb dL_law_154 (by decide) ?_
    refine va_forget (fun q hq => hS.2.2 q hq) ?_
    refine W.widen (k := 600104) (n := 7301314) (by omega) (by omega) ?_
    exact lw_ret hx hb hr hlocks dL_law_155
  | succ f ih =>
    intro k hf n z zh nx kp hI Hp locs ls hP hD hS hl
    have J135 : ∀ (X Y : Int32) (n : Nat) (z : Nat → Int32) (zh : Nat → Nat → Int32) (nx kp : Nat), pI (k + 1) n z nx kp → ∀ (Hp : Heap) (locs : List Loc) (ls : Array Slot), va_P D vwCl (xw0 cI cC cM cB ad z t sg sz r x h ah (nI nx) (nI kp) zh (lwS cI na ma z kp [])) Hp → va_D (fun q : Nat => s.heap.size ≤ q) (xw0 cI cC cM cB ad z t sg sz r x h ah (nI nx) (nI kp) zh (lwS cI na ma z kp [])) → va_S (fun q : Nat => s.heap.size ≤ q) s.heap Hp locs → lv_has ls 7 [(0, .ref b), (1, .ref x), (2, .ref na), (3, .ref ma), (4, .int (nI k)), (5, .int X), (6, .int Y)] → W p l e room_1 s m #[Value.ref b] below meth c Hp locs (300 + k + 1) (4000 + 6 * k + 6) (lw_Z below #[Value.ref b] s) (F0 m 135 ls []) := by
      intro X Y n z zh nx kp hI Hp locs ls hP hD hS hl
      refine lv_aload_n hx hb dL_law_135 rfl (lv_at hl 1 rfl) ?_
      refine lv_iload hx hb dL_law_136 (lv_at hl 6 rfl) ?_
      refine lv_aload_n hx hb dL_law_138 rfl (lv_at hl 2 rfl) ?_
      refine lv_aload_n hx hb dL_law_139 rfl (lv_at hl 3 rfl) ?_
      refine z_callS1 (As := [.ref x, .int Y, .ref na, .ref ma]) (rest := []) S (c_L_agree (l := l) (D := D) (cI := cI) (cC := cC) (cM := cM) (cB := cB) (cJ := cJ) (ad := ad) (t := t) (h := h) (ah := ah) (zh := zh) (x := x) (na := na) (ma := ma) (sg := sg) (r := r) (sz := sz) (z := z) (wr := []) hI.1 (by have := hI.2.2.1; omega) hI.2.1 hI.2.2.2.2.2.2 Y) qm_L_100 t_L_agree ⟨Nat.le_of_ble_eq_true rfl, Nat.le_of_ble_eq_true rfl⟩ rfl rfl hN hK hP hD hS hA rfl hl.1 rfl (Nat.le_of_ble_eq_true rfl) dL_law_140 ⟨(by show 300 + k + 1 + 0 ≤ 600104; omega), (by show 4000 + 6 * k + 6 + 0 ≤ 7301314; omega)⟩ (fun Hp locs hP hD hS => ?_)
      refine lv_if_ne (tgt := 148) hx hb dL_law_143 (by decide) (fun _ => ?_) (fun c9 => absurd c9 (by decide))
      refine lv_iinc (v := nI (k + 1)) (lv' := [(4, .int (nI (k + 1))), (0, .ref b), (1, .ref x), (2, .ref na), (3, .ref ma), (5, .int X), (6, .int Y)]) hx hb dL_law_148 hl (k := 4) rfl (nI_1 _) (by decide) rfl (fun ls hl => ?_)
      refine lv_goto (tgt := 56) hx hb dL_law_151 (by decide) ?_
      exact ih (k + 1) (by omega) n z zh nx kp hI Hp locs ls hP hD hS (lv_sub hl [1, 2, 3, 4, 0] rfl)
    have J106 : ∀ (X Y : Int32), ∀ (Hp : Heap) (locs : List Loc) (ls : Array Slot), va_P D vwCl (xw0 cI cC cM cB ad z t sg sz r x h ah (nI nx) (nI kp) zh (lwS cI na ma z kp [])) Hp → va_D (fun q : Nat => s.heap.size ≤ q) (xw0 cI cC cM cB ad z t sg sz r x h ah (nI nx) (nI kp) zh (lwS cI na ma z kp [])) → va_S (fun q : Nat => s.heap.size ≤ q) s.heap Hp locs → lv_has ls 7 [(0, .ref b), (1, .ref x), (2, .ref na), (3, .ref ma), (4, .int (nI k)), (5, .int X), (6, .int Y)] → W p l e room_1 s m #[Value.ref b] below meth c Hp locs (300 + k) (4000 + 6 * k) (lw_Z below #[Value.ref b] s) (F0 m 106 ls []) := by
      intro X Y Hp locs ls hP hD hS hl
      refine lv_aload_n hx hb dL_law_106 rfl (lv_at hl 1 rfl) ?_
      refine lv_iload hx hb dL_law_107 (lv_at hl 5 rfl) ?_
      refine lv_iload hx hb dL_law_109 (lv_at hl 6 rfl) ?_
      refine lv_aload_n hx hb dL_law_111 rfl (lv_at hl 2 rfl) ?_
      refine lv_aload_n hx hb dL_law_112 rfl (lv_at hl 3 rfl) ?_
      refine z_callR (As := [.ref x, .int X, .int Y, .ref na, .ref ma]) (rest := []) S (c_L_members (l := l) (D := D) (cI := cI) (cC := cC) (cM := cM) (cB := cB) (cJ := cJ) (ad := ad) (t := t) (h := h) (ah := ah) (zh := zh) (x := x) (na := na) (ma := ma) (sg := sg) (r := r) (sz := sz) (z := z) (wr := []) hfl (by omega) hI X Y) qm_L_93 t_L_members ⟨Nat.le_of_ble_eq_true rfl, Nat.le_of_ble_eq_true rfl⟩ rfl rfl hJ hN hK hP hD hS hA rfl hl.1 rfl (Nat.le_of_ble_eq_true rfl) dL_law_113 ⟨(by show 300 + k + 1 ≤ 600104; omega), (by show 4000 + 6 * k + 6 ≤ 7301314; omega)⟩ (fun w2 Hp locs hG hP hD hS => ?_)
      obtain ⟨n2, z2, zh2, nx2, kp2, hI2, rfl⟩ := hG
      refine lv_if_eq (tgt := 146) hx hb dL_law_116 (by decide) (fun c9 => absurd c9 (by decide)) (fun _ => ?_)
      refine lv_goto (tgt := 135) hx hb dL_law_119 (by decide) ?_
      exact J135 X Y n2 z2 zh2 nx2 kp2 hI2 Hp locs ls hP hD hS hl
    refine lv_iload hx hb dL_law_56 (lv_at hl 4 rfl) ?_
    refine lv_bipush (v := 60) hx hb dL_law_58 (by decide) ?_
    refine lv_icmp_ge (tgt := 154) hx hb dL_law_60 (by decide) (fun c9 => absurd c9 (nI_ge (a := k) (b := 60) (by omega) (by omega))) (fun _ => ?_)
    refine lv_aload_n hx hb dL_law_63 rfl (lv_at hl 0 rfl) ?_
    refine lv_iconst (v := 2) hx hb dL_law_64 (by decide) ?_
    refine lv_iload hx hb dL_law_65 (lv_at hl 4 rfl) ?_
    refine lv_imul hx hb dL_law_67 ?_
    refine z_top (v2 := .int (nI (2 * k))) (congrArg Value.int (pk_mul 2 k)) ?_
    refine z_callRd (As := [.ref b, .int (nI (2 * k))]) (rest := []) S (c_L_cell (l := l) (D := D) (cI := cI) (cC := cC) (cM := cM) (cB := cB) (cJ := cJ) (w := xw0 cI cC cM cB ad z t sg sz r x h ah (nI nx) (nI kp) zh (lwS cI na ma z kp [])) (b := b) (xs := xs) (k := 2 * k) (by omega) hL) qm_L_89 t_L_cell ⟨Nat.le_of_ble_eq_true rfl, Nat.le_of_ble_eq_true rfl⟩ rfl rfl hX hbl hbA hN hK hP hD hS hA rfl hl.1 rfl (Nat.le_of_ble_eq_true rfl) dL_law_68 ⟨(by show 300 + k + 0 ≤ 600104; omega), (by show 4000 + 6 * k + 0 ≤ 7301314; omega)⟩ (fun Hp locs hP hD hS => ?_)
    refine lv_istore (lv' := [(5, .int (celP xs L (2 * k))), (0, .ref b), (1, .ref x), (2, .ref na), (3, .ref ma), (4, .int (nI k))]) hx hb dL_law_71 hl (by decide) rfl (fun ls hl => ?_)
    refine lv_aload_n hx hb dL_law_73 rfl (lv_at hl 1 rfl) ?_
    refine lv_iconst (v := 2) hx hb dL_law_74 (by decide) ?_
    refine lv_iload hx hb dL_law_75 (lv_at hl 5 rfl) ?_
    refine lv_imul hx hb dL_law_77 ?_
    refine z_top (v2 := .int (nI (2 * k))) (congrArg Value.int (pk_mul 2 k)) ?_
    refine lv_iconst (v := 1) hx hb dL_law_78 (by decide) ?_
    refine lv_iadd hx hb dL_law_79 ?_
    refine z_top (v2 := .int (nI (2 * k + 1))) (congrArg Value.int (nI_1 _)) ?_
    refine z_callRd (As := [.ref b, .int (nI (2 * k + 1))]) (rest := []) S (c_L_cell (l := l) (D := D) (cI := cI) (cC := cC) (cM := cM) (cB := cB) (cJ := cJ) (w := xw0 cI cC cM cB ad z t sg sz r x h ah (nI nx) (nI kp) zh (lwS cI na ma z kp [])) (b := b) (xs := xs) (k := 2 * k + 1) (by omega) hL) qm_L_89 t_L_cell ⟨Nat.le_of_ble_eq_true rfl, Nat.le_of_ble_eq_true rfl⟩ rfl rfl hX hbl hbA hN hK hP hD hS hA rfl hl.1 rfl (Nat.le_of_ble_eq_true rfl) dL_law_80 ⟨(by show 300 + k + 0 ≤ 600104; omega), (by show 4000 + 6 * k + 0 ≤ 7301314; omega)⟩ (fun Hp locs hP hD hS => ?_)
    refine lv_istore (lv' := [(6, .int (celP xs L (2 * k + 1))), (5, .int (celP xs L (2 * k))), (0, .ref b), (1, .ref x), (2, .ref na), (3, .ref ma), (4, .int (nI k))]) hx hb dL_law_83 hl (by decide) rfl (fun ls hl => ?_)
    refine lv_iload hx hb dL_law_85 (lv_at hl 6 rfl) ?_
    refine lv_iconst (v := 2) hx hb dL_law_87 (by decide) ?_
    refine lv_icmp_lt (tgt := 106) hx hb dL_law_88 (by decide) (fun _ => ?_) (fun c2 => ?_)
    · exact J106 _ _ Hp locs ls hP hD hS (lv_sub hl [2, 3, 4, 5, 6, 1, 0] rfl)
    · have hk2 : ¬ k < 2 := fun q => c2 ((nI_lti (a := k) (b := 2) (by omega) (by omega)).mpr q)
      refine lv_iload hx hb dL_law_91 (lv_at hl 1 rfl) ?_
      refine lv_bipush (v := 20) hx hb dL_law_93 (by decide) ?_
      refine lv_ishr hx hb dL_law_95 ?_
      refine lv_bipush (v := 10) hx hb dL_law_96 (by decide) ?_
      refine z_callS1 (As := [.int ((celP xs L (2 * k)) >>> (20 &&& 31)), .int 10]) (rest := []) S (c_L_at (l := l) (D := D) (cI := cI) (cC := cC) (cM := cM) (cB := cB) (cJ := cJ) (wr := xw0 cI cC cM cB ad z t sg sz r x h ah (nI nx) (nI kp) zh (lwS cI na ma z kp [])) ((celP xs L (2 * k)) >>> (20 &&& 31)) 10 (by decide)) qm_L_26 t_L_at ⟨Nat.le_of_ble_eq_true rfl, Nat.le_of_ble_eq_true rfl⟩ rfl rfl hN hK hP hD hS hA rfl hl.1 rfl (Nat.le_of_ble_eq_true rfl) dL_law_98 ⟨(by show 300 + k + 0 ≤ 600104; omega), (by show 4000 + 6 * k + 0 ≤ 7301314; omega)⟩ (fun Hp locs hP hD hS => ?_)
      refine lv_bipush (v := 6) hx hb dL_law_101 (by decide) ?_
      refine lv_icmp_ge (tgt := 122) hx hb dL_law_103 (by decide) (fun _ => ?_) (fun _ => ?_)
      · refine lv_aload_n hx hb dL_law_122 rfl (lv_at hl 3 rfl) ?_
        refine lv_iload hx hb dL_law_123 (lv_at hl 1 rfl) ?_
        refine lv_iload hx hb dL_law_125 (lv_at hl 0 rfl) ?_
        refine lv_aload_n hx hb dL_law_127 rfl (lv_at hl 4 rfl) ?_
        refine lv_aload_n hx hb dL_law_128 rfl (lv_at hl 5 rfl) ?_
        refine z_callR (As := [.ref x, .int (celP xs L (2 * k)), .int (celP xs L (2 * k + 1)), .ref na, .ref ma]) (rest := []) S (c_L_bank (l := l) (D := D) (cI := cI) (cC := cC) (cM := cM) (cB := cB) (cJ := cJ) (ad := ad) (t := t) (h := h) (ah := ah) (zh := zh) (x := x) (na := na) (ma := ma) (sg := sg) (r := r) (sz := sz) (z := z) (wr := []) hfl (by omega) hI (by have := hI.2.2.1; omega) (celP xs L (2 * k)) (celP xs L (2 * k + 1))) qm_L_97 t_L_bank ⟨Nat.le_of_ble_eq_true rfl, Nat.le_of_ble_eq_true rfl⟩ rfl rfl hJ hN hK hP hD hS hA rfl hl.1 rfl (Nat.le_of_ble_eq_true rfl) dL_law_129 ⟨(by show 300 + k + 1 ≤ 600104; omega), (by show 4000 + 6 * k + 6 ≤ 7301314; omega)⟩ (fun w2 Hp locs hG hP hD hS => ?_)
        obtain ⟨n2, z2, zh2, nx2, kp2, hI2, rfl⟩ := hG
        refine lv_if_eq (tgt := 146) hx hb dL_law_132 (by decide) (fun c9 => absurd c9 (by decide)) (fun _ => ?_)
        exact J135 _ _ n2 z2 zh2 nx2 kp2 hI2 Hp locs ls hP hD hS (lv_sub hl [2, 3, 4, 5, 6, 1, 0] rfl)
      · exact J106 _ _ Hp locs ls hP hD hS (lv_sub hl [2, 3, 4, 5, 6, 1, 0] rfl)
set_option maxHeartbeats 4000000 in
set_option maxRecDepth 100000 in
/-- YOUR PART: from the entry, for every script of at most 260 ints, the law comes to its end with true ('hflags': the launch's flags, for a law that throws: no stack traces) -/
theorem whole_start {p : Program} {e : Env} {s : State} {m : MethodId} {below : List Frame} {meth : Method} {c : Code} (l : Launch) (hflags : l.flags = flags0) {b L : Nat} {xs : Nat → Int32} (hL : L ≤ 260) (C0 : lw_At p s m meth c b L xs) : W p l e room_1 s m #[Value.ref b] below meth c s.heap [] 0 0 (lw_Z below #[Value.ref b] s) (entryFrame m ([Value.ref b] : List Value).toArray 7) := by
  have hfl : l.stackTraces = false := by unfold Launch.stackTraces; rw [hflags]; decide +kernel
  obtain ⟨D, cI, cC, cM, cB, cJ, E, hF⟩ := st_env C0
  obtain ⟨⟨hx, hb, hr, hml, hown, htb, hX, hbl, hlocks, hgv⟩, hJ, hN, hK⟩ := id E
  have S : CallFix p m c code 7 s #[Value.ref b] TT RL := ⟨hx, hb, hml, hown, fun w hw => htb w (tt_in hw)⟩
  have hts : ∀ w ∈ TT, w.before #[Value.ref b] s = true := fun w hw => htb w (tt_in hw)
  have hA : ∀ q : Nat, s.heap.size ≤ q → (fun q : Nat => s.heap.size ≤ q) q := fun _ h => h
  have hS : va_S (fun q : Nat => s.heap.size ≤ q) s.heap s.heap [] := va_S.rf
  have hP : va_P D vwCl [] s.heap := fun k q h => by simp at h
  have hD : va_D (fun q : Nat => s.heap.size ≤ q) [] := ⟨fun i j p q h => by simp at h, fun k q h => by simp at h⟩
  have hl := lv_entry ([.ref b]) (n := 7) (Nat.le_of_ble_eq_true rfl)
  rw [lg_entry_eq]
  generalize (lg_sl ([.ref b]) ++ List.replicate (7 - (lg_sl ([.ref b])).length) Slot.unset).toArray = ls at hl ⊢
  have hl : lv_has ls 7 [(0, .ref b)] := hl
  refine va_new (ci := 5) (fs := [.null, .null, .null]) hx hb hts inTX5 tyX5 tyX5_ok hown (hts _ qk_L_31) (hts _ qa_X5) (hts _ qn_X5) hK hP hD hS hA rfl (fun j hj => by rcases (show j = 0 ∨ j = 1 ∨ j = 2 by omega) with rfl | rfl | rfl <;> rfl) (Nat.le_of_ble_eq_true rfl) (Nat.le_of_ble_eq_true rfl) dL_law_0 (fun x H hP hD hS => ?_)
  have hP : va_P D vwCl ((x, .inr (5, [.null, .null, .null])) :: []) H := hP
  have hD : va_D (fun q : Nat => s.heap.size ≤ q) ((x, .inr (5, [.null, .null, .null])) :: []) := hD
  refine lv_dup hx hb dL_law_3 rfl ?_
  refine z_callC (rest := [.ref x]) S (c_X5_init (l := l) (D := D) (cI := cI) (cC := cC) (cM := cM) (cB := cB) (cJ := cJ) (wr := []) x) qm_L_88 ⟨⟨qi_X5_init, qn_X5, qc_X5_init⟩, rfl, by decide, by decide, by decide +kernel⟩ ⟨Nat.le_of_ble_eq_true rfl, Nat.le_of_ble_eq_true rfl⟩ rfl rfl hF hN hK hP hD hS hA hl.1 rfl (Nat.le_of_ble_eq_true rfl) dL_law_4 ⟨Nat.le_of_ble_eq_true rfl, Nat.le_of_ble_eq_true rfl⟩ (fun w2 H locs hG hP hD hS => ?_)
  obtain ⟨ad, t, h, ah, rfl⟩ := hG
  refine lv_astore_n (lv' := [(1, .ref x), (0, .ref b)]) hx hb dL_law_7 rfl hl (by decide) rfl (fun ls hl => ?_)
  refine lv_bipush (v := 15) hx hb dL_law_8 (by decide) ?_
  refine va_newa (atype := .int) (a0 := (15, .inl (fun _ => 0))) (N' := 15) hx hb (hts _ qr_int) rfl hK hP hD hS hA (fun cA => rfl) (by decide) (by decide) (by decide) (Nat.le_of_ble_eq_true rfl) (Nat.le_of_ble_eq_true rfl) dL_law_10 (fun na cA H hK2 hP hD hS => ?_)
  have eA : cA = cI := ra_uniq (hK2.2 4 (cA, .int) rfl).2 (hK.2 0 _ rfl).2
  subst eA
  have hP := va_P_eq (w2 := xw0 cA cC cM cB ad zI0 t (fun _ => 0) 0 (fun _ => 0) x h ah (nI 0) (nI 0) (fun _ => zI0) [(na, .inl (cA, 15, .inl (fun _ => 0)))]) xw_app.symm hP
  have hD := va_D_eq (w2 := xw0 cA cC cM cB ad zI0 t (fun _ => 0) 0 (fun _ => 0) x h ah (nI 0) (nI 0) (fun _ => zI0) [(na, .inl (cA, 15, .inl (fun _ => 0)))]) xw_app.symm hD
  refine lv_astore_n (lv' := [(2, .ref na), (1, .ref x), (0, .ref b)]) hx hb dL_law_12 rfl hl (by decide) rfl (fun ls hl => ?_)
  refine lv_bipush (v := 64) hx hb dL_law_13 (by decide) ?_
  refine va_newa (atype := .int) (a0 := (64, .inl (fun _ => 0))) (N' := 64) hx hb (hts _ qr_int) rfl hK hP hD hS hA (fun cA => rfl) (by decide) (by decide) (by decide) (Nat.le_of_ble_eq_true rfl) (Nat.le_of_ble_eq_true rfl) dL_law_15 (fun ma cI H hK2 hP hD hS => ?_)
  have eA : cI = cA := ra_uniq (hK2.2 4 (cI, .int) rfl).2 (hK.2 0 _ rfl).2
  subst eA
  have hP := va_P_eq (w2 := xw0 cI cC cM cB ad zI0 t (fun _ => 0) 0 (fun _ => 0) x h ah (nI 0) (nI 0) (fun _ => zI0) (lwS cI na ma (fun _ => 0) 0 [])) lw_zero hP
  have hD := va_D_eq (w2 := xw0 cI cC cM cB ad zI0 t (fun _ => 0) 0 (fun _ => 0) x h ah (nI 0) (nI 0) (fun _ => zI0) (lwS cI na ma (fun _ => 0) 0 [])) lw_zero hD
  refine lv_astore_n (lv' := [(3, .ref ma), (2, .ref na), (1, .ref x), (0, .ref b)]) hx hb dL_law_17 rfl hl (by decide) rfl (fun ls hl => ?_)
  refine lv_aload_n hx hb dL_law_18 rfl (lv_at hl 1 rfl) ?_
  refine lv_bipush (v := 6) hx hb dL_law_19 (by decide) ?_
  refine lv_sipush (v := 600) hx hb dL_law_21 (by decide) ?_
  refine z_iast (ws2 := xw0 cI cC cM cB ad zI0 t (fun _ => 0) 0 (fun _ => 0) x h ah (nI 0) (nI 0) (fun _ => zI0) (lwS cI na ma (upd (fun _ => 0) 0 600) 0 ([]))) hx hb hK hP hD hS (139 + (0)) 0 ((xw_r).trans (lw_0)) rfl (vp_in_nI (show 6 < 15 by decide) (by omega)) dL_law_24 ((xw_rs).trans (congrArg (fun w_ => xw0 cI cC cM cB ad zI0 t (fun _ => 0) 0 (fun _ => 0) x h ah (nI 0) (nI 0) (fun _ => zI0) w_) (z_ixw (k := 6) rfl (by omega) (fun q_ => (lwS cI na ma (fun _ => 0) 0 ([])).set 0 (na, .inl (cI, 15, .inl (upd (nfn (fun _ => 0) 0) q_ 600)))) (lw_wx (by decide) (by decide) rfl)))) (fun H locs hP hD hS => ?_)
  refine lv_aload_n hx hb dL_law_25 rfl (lv_at hl 1 rfl) ?_
  refine lv_bipush (v := 7) hx hb dL_law_26 (by decide) ?_
  refine lv_bipush (v := 120) hx hb dL_law_28 (by decide) ?_
  refine z_iast (ws2 := xw0 cI cC cM cB ad zI0 t (fun _ => 0) 0 (fun _ => 0) x h ah (nI 0) (nI 0) (fun _ => zI0) (lwS cI na ma (upd (upd (fun _ => 0) 0 600) 1 120) 0 ([]))) hx hb hK hP hD hS (139 + (0)) 0 ((xw_r).trans (lw_0)) rfl (vp_in_nI (show 7 < 15 by decide) (by omega)) dL_law_30 ((xw_rs).trans (congrArg (fun w_ => xw0 cI cC cM cB ad zI0 t (fun _ => 0) 0 (fun _ => 0) x h ah (nI 0) (nI 0) (fun _ => zI0) w_) (z_ixw (k := 7) rfl (by omega) (fun q_ => (lwS cI na ma (upd (fun _ => 0) 0 600) 0 ([])).set 0 (na, .inl (cI, 15, .inl (upd (nfn (upd (fun _ => 0) 0 600) 0) q_ 120)))) (lw_wx (by decide) (by decide) rfl)))) (fun H locs hP hD hS => ?_)
  refine lv_aload_n hx hb dL_law_31 rfl (lv_at hl 1 rfl) ?_
  refine lv_bipush (v := 8) hx hb dL_law_32 (by decide) ?_
  refine lv_iconst (v := 4) hx hb dL_law_34 (by decide) ?_
  refine z_iast (ws2 := xw0 cI cC cM cB ad zI0 t (fun _ => 0) 0 (fun _ => 0) x h ah (nI 0) (nI 0) (fun _ => zI0) (lwS cI na ma (upd (upd (upd (fun _ => 0) 0 600) 1 120) 2 4) 0 ([]))) hx hb hK hP hD hS (139 + (0)) 0 ((xw_r).trans (lw_0)) rfl (vp_in_nI (show 8 < 15 by decide) (by omega)) dL_law_35 ((xw_rs).trans (congrArg (fun w_ => xw0 cI cC cM cB ad zI0 t (fun _ => 0) 0 (fun _ => 0) x h ah (nI 0) (nI 0) (fun _ => zI0) w_) (z_ixw (k := 8) rfl (by omega) (fun q_ => (lwS cI na ma (upd (upd (fun _ => 0) 0 600) 1 120) 0 ([])).set 0 (na, .inl (cI, 15, .inl (upd (nfn (upd (upd (fun _ => 0) 0 600) 1 120) 0) q_ 4)))) (lw_wx (by decide) (by decide) rfl)))) (fun H locs hP hD hS => ?_)
  refine lv_aload_n hx hb dL_law_36 rfl (lv_at hl 1 rfl) ?_
  refine lv_bipush (v := 9) hx hb dL_law_37 (by decide) ?_
  refine lv_bipush (v := 10) hx hb dL_law_39 (by decide) ?_
  refine z_iast (ws2 := xw0 cI cC cM cB ad zI0 t (fun _ => 0) 0 (fun _ => 0) x h ah (nI 0) (nI 0) (fun _ => zI0) (lwS cI na ma (upd (upd (upd (upd (fun _ => 0) 0 600) 1 120) 2 4) 3 10) 0 ([]))) hx hb hK hP hD hS (139 + (0)) 0 ((xw_r).trans (lw_0)) rfl (vp_in_nI (show 9 < 15 by decide) (by omega)) dL_law_41 ((xw_rs).trans (congrArg (fun w_ => xw0 cI cC cM cB ad zI0 t (fun _ => 0) 0 (fun _ => 0) x h ah (nI 0) (nI 0) (fun _ => zI0) w_) (z_ixw (k := 9) rfl (by omega) (fun q_ => (lwS cI na ma (upd (upd (upd (fun _ => 0) 0 600) 1 120) 2 4) 0 ([])).set 0 (na, .inl (cI, 15, .inl (upd (nfn (upd (upd (upd (fun _ => 0) 0 600) 1 120) 2 4) 0) q_ 10)))) (lw_wx (by decide) (by decide) rfl)))) (fun H locs hP hD hS => ?_)
  refine lv_aload_n hx hb dL_law_42 rfl (lv_at hl 1 rfl) ?_
  refine lv_bipush (v := 10) hx hb dL_law_43 (by decide) ?_
  refine lv_bipush (v := 30) hx hb dL_law_45 (by decide) ?_
  refine z_iast (ws2 := xw0 cI cC cM cB ad zI0 t (fun _ => 0) 0 (fun _ => 0) x h ah (nI 0) (nI 0) (fun _ => zI0) (lwS cI na ma (upd (upd (upd (upd (upd (fun _ => 0) 0 600) 1 120) 2 4) 3 10) 4 30) 0 ([]))) hx hb hK hP hD hS (139 + (0)) 0 ((xw_r).trans (lw_0)) rfl (vp_in_nI (show 10 < 15 by decide) (by omega)) dL_law_47 ((xw_rs).trans (congrArg (fun w_ => xw0 cI cC cM cB ad zI0 t (fun _ => 0) 0 (fun _ => 0) x h ah (nI 0) (nI 0) (fun _ => zI0) w_) (z_ixw (k := 10) rfl (by omega) (fun q_ => (lwS cI na ma (upd (upd (upd (upd (fun _ => 0) 0 600) 1 120) 2 4) 3 10) 0 ([])).set 0 (na, .inl (cI, 15, .inl (upd (nfn (upd (upd (upd (upd (fun _ => 0) 0 600) 1 120) 2 4) 3 10) 0) q_ 30)))) (lw_wx (by decide) (by decide) rfl)))) (fun H locs hP hD hS => ?_)
  refine lv_aload_n hx hb dL_law_48 rfl (lv_at hl 1 rfl) ?_
  refine lv_bipush (v := 11) hx hb dL_law_49 (by decide) ?_
  refine lv_iconst (v := (-1)) hx hb dL_law_51 (by decide) ?_
  refine z_iast (ws2 := xw0 cI cC cM cB ad zI0 t (fun _ => 0) 0 (fun _ => 0) x h ah (nI 0) (nI 0) (fun _ => zI0) (lwS cI na ma (upd (upd (upd (upd (upd (upd (fun _ => 0) 0 600) 1 120) 2 4) 3 10) 4 30) 10 (-1)) 0 ([]))) hx hb hK hP hD hS (139 + (0)) 0 ((xw_r).trans (lw_0)) rfl (vp_in_nI (show 11 < 15 by decide) (by omega)) dL_law_52 ((xw_rs).trans (congrArg (fun w_ => xw0 cI cC cM cB ad zI0 t (fun _ => 0) 0 (fun _ => 0) x h ah (nI 0) (nI 0) (fun _ => zI0) w_) (z_ixw (k := 11) rfl (by omega) (fun q_ => (lwS cI na ma (upd (upd (upd (upd (upd (fun _ => 0) 0 600) 1 120) 2 4) 3 10) 4 30) 0 ([])).set 0 (na, .inl (cI, 15, .inl (upd (nfn (upd (upd (upd (upd (upd (fun _ => 0) 0 600) 1 120) 2 4) 3 10) 4 30) 0) q_ (-1))))) (lw_wx (by decide) (by decide) rfl)))) (fun H locs hP hD hS => ?_)
  have hP := va_P_eq (w2 := xw0 cI cC cM cB ad zI0 t (fun _ => 0) 0 (fun _ => 0) x h ah (nI 0) (nI 0) (fun _ => zI0) (lwS cI na ma zI0 0 [])) (congrArg (fun w_ => xw0 cI cC cM cB ad zI0 t (fun _ => 0) 0 (fun _ => 0) x h ah (nI 0) (nI 0) (fun _ => zI0) w_) (lwS_congr (fun q _ => z0_row q))) hP
  have hD := va_D_eq (w2 := xw0 cI cC cM cB ad zI0 t (fun _ => 0) 0 (fun _ => 0) x h ah (nI 0) (nI 0) (fun _ => zI0) (lwS cI na ma zI0 0 [])) (congrArg (fun w_ => xw0 cI cC cM cB ad zI0 t (fun _ => 0) 0 (fun _ => 0) x h ah (nI 0) (nI 0) (fun _ => zI0) w_) (lwS_congr (fun q _ => z0_row q))) hD
  refine lv_iconst (v := 0) hx hb dL_law_53 (by decide) ?_
  refine lv_istore (lv' := [(4, .int 0), (3, .ref ma), (2, .ref na), (1, .ref x), (0, .ref b)]) hx hb dL_law_54 hl (by decide) rfl (fun ls hl => ?_)
  refine W.widen (k := 300 + 0) (n := 4000 + 6 * 0) (Nat.le_of_ble_eq_true rfl) (Nat.le_of_ble_eq_true rfl) ?_
  exact law_loop E hfl hL 60 0 rfl 0 zI0 (fun _ => zI0) 0 0 z0_pI _ _ ls hP hD hS (lv_sub hl [4, 3, 2, 1, 0] rfl)
