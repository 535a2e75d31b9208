/-! The deals of a text: the rows of the reader at each sign, and what the bank becomes. -/
def gT (q : Nat → Int32) (k : Nat) : Nat := (q k).toNatClampNeg
def rdOK (q : Nat → Int32) : Prop := ∃ g t k : Nat, g < 8 ∧ t < 8 ∧ g ≠ t ∧ k < 5 ∧ q 1 = nI g ∧ q 2 = nI t ∧ q 3 = nI k
def fq (sg r : Nat → Int32) (N i : Nat) : Nat → Int32 := frR sg r (min i N)
abbrev mdC (sg : Nat → Int32) (N i : Nat) : Prop := nI i = nI N ∨ sg i = 59
abbrev alwQ (z : Nat → Int32) (n : Nat) (q : Nat → Int32) : Prop := alwP z n (gT q 1) (gT q 2) (gT q 3) (q 4)
def dealQ (z q : Nat → Int32) : Nat → Int32 := dealZ z (gT q 1) (gT q 2) (gT q 3) (q 4)
/-- from the bank z and the count c, at i, m looks left: the bank, the count and the row at the end -/
def mdX (sg r : Nat → Int32) (n N : Nat) : (Nat → Int32) → Int32 → Nat → Nat → (Nat → Int32) × Int32 × (Nat → Int32)
  | z, c, i, 0 => (z, c, fq sg r N i)
  | z, c, i, m + 1 => if mdC sg N i then (if alwQ z n (fq sg r N i) then mdX sg r n N (dealQ z (fq sg r N i)) (c + 1) (i + 1) m else (z, c, fq sg r N i)) else mdX sg r n N z c (i + 1) m
/-- the bank and the count at i, where none was refused so far -/
def mdQ (sg r : Nat → Int32) (N : Nat) (z : Nat → Int32) : Nat → Nat → Int32
  | 0 => z
  | i + 1 => if mdC sg N i then dealQ (mdQ sg r N z i) (fq sg r N i) else mdQ sg r N z i
def mdK (sg : Nat → Int32) (N : Nat) : Nat → Int32
  | 0 => 0
  | i + 1 => if mdC sg N i then mdK sg N i + 1 else mdK sg N i
theorem dealZ_5 {z : Nat → Int32} {g t k : Nat} {mn : Int32} {q : Nat} (h : q < 14) (h6 : q ≠ 6) (h9 : q ≠ 9) : dealZ z g t k mn q = z q := by
  unfold dealZ
  rw [upd_ne (by omega), upd_ne (by omega), upd_ne (by omega), upd_ne (by omega), upd_ne (by omega), upd_ne (by omega), upd_ne (by omega), upd_ne (by omega), upd_ne (by omega), upd_ne (by omega), upd_ne (by omega), upd_ne (by omega), upd_ne (by omega)]
theorem mdQ_5 {sg r : Nat → Int32} {N : Nat} {z : Nat → Int32} (i : Nat) {q : Nat} (h : q < 14) (h6 : q ≠ 6) (h9 : q ≠ 9) : mdQ sg r N z i q = z q := by
  induction i with
  | zero => rfl
  | succ i ih =>
    rw [mdQ]
    split
    · exact (dealZ_5 h h6 h9).trans ih
    · exact ih
theorem fq_lt {sg r : Nat → Int32} {N i : Nat} (h : i < N) : tkR (fq sg r N i) (sg i) = fq sg r N (i + 1) := by
  unfold fq
  rw [show min i N = i by omega, show min (i + 1) N = i + 1 by omega]; rfl
theorem fq_N {sg r : Nat → Int32} {N i : Nat} (h : i = N) : fq sg r N i = fq sg r N (i + 1) := by
  unfold fq
  rw [show min i N = N by omega, show min (i + 1) N = N by omega]
theorem fq_0 {sg r : Nat → Int32} {N : Nat} : rstR r = fq sg r N 0 := by
  unfold fq
  rw [show min 0 N = 0 by omega]; rfl
abbrev mdI (sg r : Nat → Int32) (n N : Nat) (z : Nat → Int32) (i : Nat) : Prop := mdX sg r n N z 0 0 (N + 1) = mdX sg r n N (mdQ sg r N z i) (mdK sg N i) i (N + 1 - i)
theorem md_stop {sg r : Nat → Int32} {n N i : Nat} {z : Nat → Int32} (h : mdI sg r n N z i) (li : i < N + 1) (c : mdC sg N i) (a : ¬ alwQ (mdQ sg r N z i) n (fq sg r N i)) : mdX sg r n N z 0 0 (N + 1) = (mdQ sg r N z i, mdK sg N i, fq sg r N i) := by
  rw [h, show N + 1 - i = (N + 1 - (i + 1)) + 1 by omega, mdX, if_pos c, if_neg a]
theorem md_deal {sg r : Nat → Int32} {n N i : Nat} {z : Nat → Int32} (h : mdI sg r n N z i) (li : i < N + 1) (c : mdC sg N i) (a : alwQ (mdQ sg r N z i) n (fq sg r N i)) : mdI sg r n N z (i + 1) := by
  unfold mdI
  rw [h, show N + 1 - i = (N + 1 - (i + 1)) + 1 by omega, mdX, if_pos c, if_pos a, mdQ, if_pos c, mdK, if_pos c]
theorem md_skip {sg r : Nat → Int32} {n N i : Nat} {z : Nat → Int32} (h : mdI sg r n N z i) (li : i < N + 1) (c : ¬ mdC sg N i) : mdI sg r n N z (i + 1) := by
  unfold mdI
  rw [h, show N + 1 - i = (N + 1 - (i + 1)) + 1 by omega, mdX, if_neg c, mdQ, if_neg c, mdK, if_neg c]
theorem md_end {sg r : Nat → Int32} {n N : Nat} {z : Nat → Int32} (h : mdI sg r n N z (N + 1)) : mdX sg r n N z 0 0 (N + 1) = (mdQ sg r N z (N + 1), mdK sg N (N + 1), fq sg r N (N + 1)) := by
  rw [h, Nat.sub_self, mdX]
theorem rd_gT {q : Nat → Int32} {g t k : Nat} (hg : g < 8) (ht : t < 8) (hk : k < 5) (h1 : q 1 = nI g) (h2 : q 2 = nI t) (h3 : q 3 = nI k) : gT q 1 = g ∧ gT q 2 = t ∧ gT q 3 = k := by
  unfold gT
  rw [h1, h2, h3, nI_clamp (by omega), nI_clamp (by omega), nI_clamp (by omega)]
  exact ⟨rfl, rfl, rfl⟩

section XB
variable {l : Launch} {D : va_G} {cI cC cM cB cJ : ClassId} {ad ad2 : Nat → Nat} {z z2 : Nat → Int32} {wr : va_W}
set_option maxHeartbeats 4000000 in
set_option maxRecDepth 100000 in
theorem c_X1_makesDeal {n : Nat} (hn : n ≤ 8) (hz : z 5 = nI n) {t : Nat → Nat} {sg : Nat → Int32} {sz : Int32} {r : Nat → Int32} {gv tv kv : Nat} (hg : gv < 8) (ht : tv < 8) (hgt : gv ≠ tv) (hk : kv < 5) (h1 : r 1 = nI gv) (h2 : r 2 = nI tv) (h3 : r 3 = nI kv) : zM l D (zT cI cC cM cB cJ) yX1_makesDeal cX1_makesDeal 2 (some .boolean) ({ frames := 5, cells := 0, slots := 0, locals := 112 } : Room) [.ref (t 2), .ref (ad 0)] (bkW cI cM ad z (txW cC t sg sz r wr)) (bkW cI cM ad (if alwP z n gv tv kv (r 4) then dealZ z gv tv kv (r 4) else z) (txW cC t sg sz r wr)) (some (.int (bI (alwP z n gv tv kv (r 4))))) 0 0 := by
  refine z_enter (by decide) (Nat.le_of_ble_eq_true rfl) ?_
  intro p e s m below meth c A S hr hlocks hnm hN hA hK hP hD hS ls hl
  obtain ⟨hx, hb, hml, hown, hts⟩ := id S
  have hl : lv_has ls 2 [(0, .ref (t 2)), (1, .ref (ad 0))] := hl
  have hP : va_P D vwCl (bkW cI cM ad z (txW cC t sg sz r wr)) s.heap := hP
  have hD : va_D A (bkW cI cM ad z (txW cC t sg sz r wr)) := hD
  refine lv_aload_n hx hb dX1_makesDeal_0 rfl (lv_at hl 1 rfl) ?_
  refine lv_aload_n hx hb dX1_makesDeal_1 rfl (lv_at hl 0 rfl) ?_
  refine va_get (v := .int (nI gv)) hx hb hts inTX1 hown hK hP (19 + (2)) ((bk_r).trans (tx_2)) rfl 1 (by decide) (hts _ qf_X1_43) (fun _ h9 => h9) (congrArg (fun x => some (Value.int x)) (h1)) dX1_makesDeal_2 ?_
  refine lv_aload_n hx hb dX1_makesDeal_5 rfl (lv_at hl 0 rfl) ?_
  refine va_get (v := .int (nI tv)) hx hb hts inTX1 hown hK hP (19 + (2)) ((bk_r).trans (tx_2)) rfl 2 (by decide) (hts _ qf_X1_46) (fun _ h9 => h9) (congrArg (fun x => some (Value.int x)) (h2)) dX1_makesDeal_6 ?_
  refine lv_aload_n hx hb dX1_makesDeal_9 rfl (lv_at hl 0 rfl) ?_
  refine va_get (v := .int (nI kv)) hx hb hts inTX1 hown hK hP (19 + (2)) ((bk_r).trans (tx_2)) rfl 3 (by decide) (hts _ qf_X1_52) (fun _ h9 => h9) (congrArg (fun x => some (Value.int x)) (h3)) dX1_makesDeal_10 ?_
  refine lv_aload_n hx hb dX1_makesDeal_13 rfl (lv_at hl 0 rfl) ?_
  refine va_get (v := .int (r 4)) hx hb hts inTX1 hown hK hP (19 + (2)) ((bk_r).trans (tx_2)) rfl 4 (by decide) (hts _ qf_X1_15) (fun _ h9 => h9) (rfl) dX1_makesDeal_14 ?_
  refine z_callV1 (rest := []) S (c_X0_allowsDeal (n := n) (show n ≤ 8 by omega) (hz) gv tv kv (show gv < 8 by omega) (show tv < 8 by omega) (show kv < 5 by omega) (r 4)) qm_X1_64 v_X0_allowsDeal ⟨Nat.le_of_ble_eq_true rfl, Nat.le_of_ble_eq_true rfl⟩ rfl rfl hN hK hP hD hS hA (0) (bk_0) rfl rfl hl.1 rfl (Nat.le_of_ble_eq_true rfl) dX1_makesDeal_17 ⟨Nat.le_of_ble_eq_true rfl, Nat.le_of_ble_eq_true rfl⟩ (fun H locs hP hD hS => ?_)
  refine lv_if_ne (tgt := 25) hx hb dX1_makesDeal_20 (by decide) (fun c1 => ?_) (fun c1 => ?_)
  · have c1 := bI_1 c1
    refine lv_aload_n hx hb dX1_makesDeal_25 rfl (lv_at hl 1 rfl) ?_
    refine lv_aload_n hx hb dX1_makesDeal_26 rfl (lv_at hl 0 rfl) ?_
    refine va_get (v := .int (nI gv)) hx hb hts inTX1 hown hK hP (19 + (2)) ((bk_r).trans (tx_2)) rfl 1 (by decide) (hts _ qf_X1_43) (fun _ h9 => h9) (congrArg (fun x => some (Value.int x)) (h1)) dX1_makesDeal_27 ?_
    refine lv_aload_n hx hb dX1_makesDeal_30 rfl (lv_at hl 0 rfl) ?_
    refine va_get (v := .int (nI tv)) hx hb hts inTX1 hown hK hP (19 + (2)) ((bk_r).trans (tx_2)) rfl 2 (by decide) (hts _ qf_X1_46) (fun _ h9 => h9) (congrArg (fun x => some (Value.int x)) (h2)) dX1_makesDeal_31 ?_
    refine lv_aload_n hx hb dX1_makesDeal_34 rfl (lv_at hl 0 rfl) ?_
    refine va_get (v := .int (nI kv)) hx hb hts inTX1 hown hK hP (19 + (2)) ((bk_r).trans (tx_2)) rfl 3 (by decide) (hts _ qf_X1_52) (fun _ h9 => h9) (congrArg (fun x => some (Value.int x)) (h3)) dX1_makesDeal_35 ?_
    refine lv_aload_n hx hb dX1_makesDeal_38 rfl (lv_at hl 0 rfl) ?_
    refine va_get (v := .int (r 4)) hx hb hts inTX1 hown hK hP (19 + (2)) ((bk_r).trans (tx_2)) rfl 4 (by decide) (hts _ qf_X1_15) (fun _ h9 => h9) (rfl) dX1_makesDeal_39 ?_
    refine z_callV1 (rest := []) S (c_X0_makeDeal gv tv kv (show gv < 8 by omega) (show tv < 8 by omega) (by first | assumption | omega) (show kv < 5 by omega) (r 4)) qm_X1_70 v_X0_makeDeal ⟨Nat.le_of_ble_eq_true rfl, Nat.le_of_ble_eq_true rfl⟩ rfl rfl hN hK hP hD hS hA (0) (bk_0) rfl rfl hl.1 rfl (Nat.le_of_ble_eq_true rfl) dX1_makesDeal_42 ⟨Nat.le_of_ble_eq_true rfl, Nat.le_of_ble_eq_true rfl⟩ (fun H locs hP hD hS => ?_)
    refine lv_pop hx hb dX1_makesDeal_45 rfl ?_
    refine lv_iconst (v := 1) hx hb dX1_makesDeal_46 (by decide) ?_
    exact z_zret hx hb hr hlocks hP hD hK hS (by rw [if_pos c1]) (by rw [bI_t c1]) rfl dX1_makesDeal_47
  · have c1 := bI_0 c1
    refine lv_iconst (v := 0) hx hb dX1_makesDeal_23 (by decide) ?_
    exact z_zret hx hb hr hlocks hP hD hK hS (by rw [if_neg c1]) (by rw [bI_f c1]) rfl dX1_makesDeal_24
set_option maxHeartbeats 4000000 in
set_option maxRecDepth 100000 in
theorem c_X2_makeDeals {n : Nat} (hn : n ≤ 8) (hz : z 5 = nI n) {t : Nat → Nat} {sg : Nat → Int32} {r : Nat → Int32} {N : Nat} (hN60 : N ≤ 60) (hrow : ∀ i : Nat, i < N + 1 → mdC sg N i → rdOK (fq sg r N i)) : zM l D (zT cI cC cM cB cJ) yX2_makeDeals cX2_makeDeals 4 (some .int) ({ frames := 6, cells := 0, slots := 0, locals := 133 } : Room) [.ref (t 0), .ref (ad 0)] (bkW cI cM ad z (txW cC t sg (nI N) r wr)) (bkW cI cM ad ((mdX sg r n N z 0 0 (N + 1)).1) (txW cC t sg (nI N) ((mdX sg r n N z 0 0 (N + 1)).2.2) wr)) (some (.int (mdX sg r n N z 0 0 (N + 1)).2.1)) 0 0 := by
  refine z_enter (by decide) (Nat.le_of_ble_eq_true rfl) ?_
  intro p e s m below meth c A S hr hlocks hnm hN hA hK hP hD hS ls hl
  obtain ⟨hx, hb, hml, hown, hts⟩ := id S
  have hl : lv_has ls 4 [(0, .ref (t 0)), (1, .ref (ad 0))] := hl
  have hP : va_P D vwCl (bkW cI cM ad z (txW cC t sg (nI N) r wr)) s.heap := hP
  have hD : va_D A (bkW cI cM ad z (txW cC t sg (nI N) r wr)) := hD
  refine lv_iconst (v := 0) hx hb dX2_makeDeals_0 (by decide) ?_
  refine lv_istore_n (lv' := [(2, .int 0), (0, .ref (t 0)), (1, .ref (ad 0))]) hx hb dX2_makeDeals_1 rfl hl (by decide) rfl (fun ls hl => ?_)
  refine lv_aload_n hx hb dX2_makeDeals_2 rfl (lv_at hl 1 rfl) ?_
  refine va_get (v := .ref (t 2)) hx hb hts inTX2 hown hK hP (19 + (0)) ((bk_r).trans (tx_0)) rfl 1 (by decide) (hts _ qf_X2_18) (fun _ h9 => h9) (rfl) dX2_makeDeals_3 ?_
  refine z_callV0 (rest := []) S (c_X1_restart ) qm_X2_26 v_X1_restart ⟨Nat.le_of_ble_eq_true rfl, Nat.le_of_ble_eq_true rfl⟩ rfl rfl hN hK hP hD hS hA (19 + (2)) ((bk_r).trans (tx_2)) rfl rfl hl.1 rfl (Nat.le_of_ble_eq_true rfl) dX2_makeDeals_6 ⟨Nat.le_of_ble_eq_true rfl, Nat.le_of_ble_eq_true rfl⟩ (fun H locs hP hD hS => ?_)
  refine lv_iconst (v := 0) hx hb dX2_makeDeals_9 (by decide) ?_
  refine lv_istore_n (lv' := [(3, .int 0), (2, .int 0), (0, .ref (t 0)), (1, .ref (ad 0))]) hx hb dX2_makeDeals_10 rfl hl (by decide) rfl (fun ls hl => ?_)
  have K11 : ∀ (n11 i : Nat), i + n11 = N + 1 → mdI sg r n N z i → ∀ (H : Heap) (locs : List Loc), va_P D vwCl (bkW cI cM ad (mdQ sg r N z i) (txW cC t sg (nI N) (fq sg r N i) wr)) H → va_D A (bkW cI cM ad (mdQ sg r N z i) (txW cC t sg (nI N) (fq sg r N i) wr)) → va_S A s.heap H locs → ∀ ls : Array Slot, lv_has ls 4 [(0, .ref (t 0)), (1, .ref (ad 0)), (2, .int (mdK sg N i)), (3, .int (nI i))] → W p l e ({ frames := 6, cells := 0, slots := 0, locals := 133 } : Room) s m ([.ref (t 0), .ref (ad 0)] : List Value).toArray below meth c H locs 0 0 (MQ below (zQ D (zT cI cC cM cB cJ) (bkW cI cM ad ((mdX sg r n N z 0 0 (N + 1)).1) (txW cC t sg (nI N) ((mdX sg r n N z 0 0 (N + 1)).2.2) wr)) (some (.int (mdX sg r n N z 0 0 (N + 1)).2.1)) A) ([.ref (t 0), .ref (ad 0)] : List Value).toArray s 0 0 A) (F0 m 11 ls []) := by
    intro n11
    induction n11 with
    | zero =>
      intro i hi hinv11 H locs hP hD hS ls hl
      have ei : N + 1 = i := by omega
      subst ei
      refine lv_iload_n hx hb dX2_makeDeals_11 rfl (lv_at hl 3 rfl) ?_
      refine lv_aload_n hx hb dX2_makeDeals_12 rfl (lv_at hl 0 rfl) ?_
      refine va_get (v := .int (nI N)) hx hb hts inTX2 hown hK hP (19 + (0)) ((bk_r).trans (tx_0)) rfl 2 (by decide) (hts _ qf_X2_22) (fun _ h9 => h9) (rfl) dX2_makeDeals_13 ?_
      refine lv_icmp_gt (tgt := 82) hx hb dX2_makeDeals_16 (by decide) (fun c1 => ?_) (fun c1 => absurd (nI_lt (a := N) (b := N + 1) (by omega) (by omega)) c1)
      refine lv_iload_n hx hb dX2_makeDeals_82 rfl (lv_at hl 2 rfl) ?_
      exact z_iret hx hb hr hlocks hP hD hK hS (by rw [md_end hinv11]) (by rw [md_end hinv11]) dX2_makeDeals_83
    | succ n11 ih11 =>
      intro i hi hinv11 H locs hP hD hS ls hl
      have li : i < N + 1 := by omega
      refine lv_iload_n hx hb dX2_makeDeals_11 rfl (lv_at hl 3 rfl) ?_
      refine lv_aload_n hx hb dX2_makeDeals_12 rfl (lv_at hl 0 rfl) ?_
      refine va_get (v := .int (nI N)) hx hb hts inTX2 hown hK hP (19 + (0)) ((bk_r).trans (tx_0)) rfl 2 (by decide) (hts _ qf_X2_22) (fun _ h9 => h9) (rfl) dX2_makeDeals_13 ?_
      refine lv_icmp_gt (tgt := 82) hx hb dX2_makeDeals_16 (by decide) (fun c2 => absurd c2 (nI_nlt (a := N) (b := i) (by omega) (by omega))) (fun c2 => ?_)
      refine lv_iload_n hx hb dX2_makeDeals_19 rfl (lv_at hl 3 rfl) ?_
      refine lv_aload_n hx hb dX2_makeDeals_20 rfl (lv_at hl 0 rfl) ?_
      refine va_get (v := .int (nI N)) hx hb hts inTX2 hown hK hP (19 + (0)) ((bk_r).trans (tx_0)) rfl 2 (by decide) (hts _ qf_X2_22) (fun _ h9 => h9) (rfl) dX2_makeDeals_21 ?_
      refine lv_icmp_eq (tgt := 38) hx hb dX2_makeDeals_24 (by decide) (fun c3 => ?_) (fun c3 => ?_)
      · skip
        refine lv_aload_n hx hb dX2_makeDeals_38 rfl (lv_at hl 0 rfl) ?_
        obtain ⟨gv_, tv_, kv_, hg_, ht_, hgt_, hk_, h1_, h2_, h3_⟩ := hrow i li (Or.inl c3)
        obtain ⟨k1_, k2_, k3_⟩ := rd_gT hg_ ht_ hk_ h1_ h2_ h3_
        refine va_get (v := .ref (t 2)) hx hb hts inTX2 hown hK hP (19 + (0)) ((bk_r).trans (tx_0)) rfl 1 (by decide) (hts _ qf_X2_18) (fun _ h9 => h9) (rfl) dX2_makeDeals_39 ?_
        refine lv_aload_n hx hb dX2_makeDeals_42 rfl (lv_at hl 1 rfl) ?_
        refine z_callV1 (rest := []) S (c_X1_makesDeal (n := n) (show n ≤ 8 by omega) ((mdQ_5 _ (by omega) (by omega) (by omega)).trans hz) hg_ ht_ hgt_ hk_ h1_ h2_ h3_) qm_X2_41 v_X1_makesDeal ⟨Nat.le_of_ble_eq_true rfl, Nat.le_of_ble_eq_true rfl⟩ rfl rfl hN hK hP hD hS hA (19 + (2)) ((bk_r).trans (tx_2)) rfl rfl hl.1 rfl (Nat.le_of_ble_eq_true rfl) dX2_makeDeals_43 ⟨Nat.le_of_ble_eq_true rfl, Nat.le_of_ble_eq_true rfl⟩ (fun H locs hP hD hS => ?_)
        refine lv_if_ne (tgt := 51) hx hb dX2_makeDeals_46 (by decide) (fun c4 => ?_) (fun c4 => ?_)
        · have c4 := bI_1 c4
          refine lv_iinc (v := (mdK sg N i) + 1) (lv' := [(2, .int ((mdK sg N i) + 1)), (0, .ref (t 0)), (1, .ref (ad 0)), (3, .int (nI i))]) hx hb dX2_makeDeals_51 hl (k := 2) rfl (by rfl) (by decide) rfl (fun ls hl => ?_)
          refine lv_iload_n hx hb dX2_makeDeals_54 rfl (lv_at hl 3 rfl) ?_
          refine lv_aload_n hx hb dX2_makeDeals_55 rfl (lv_at hl 1 rfl) ?_
          refine va_get (v := .int (nI N)) hx hb hts inTX2 hown hK hP (19 + (0)) ((bk_r).trans (tx_0)) rfl 2 (by decide) (hts _ qf_X2_22) (fun _ h9 => h9) (rfl) dX2_makeDeals_56 ?_
          refine lv_icmp_ge (tgt := 76) hx hb dX2_makeDeals_59 (by decide) (fun c5 => ?_) (fun c5 => absurd (by rw [c3]; exact Int32.le_refl _) c5)
          have c5 := z_nlt c5
          refine lv_iinc (v := nI (i + 1)) (lv' := [(3, .int (nI (i + 1))), (2, .int ((mdK sg N i) + 1)), (0, .ref (t 0)), (1, .ref (ad 0))]) hx hb dX2_makeDeals_76 hl (k := 3) rfl (nI_1 _) (by decide) rfl (fun ls hl => ?_)
          refine lv_goto (tgt := 11) hx hb dX2_makeDeals_79 (by decide) ?_
          have hl := (congrArg (fun q => lv_has ls 4 [(3, .int (nI (i + 1))), (2, q), (0, .ref (t 0)), (1, .ref (ad 0))]) (show Value.int ((mdK sg N i) + 1) = .int (mdK sg N (i + 1)) from congrArg Value.int (by rw [mdK, if_pos (Or.inl c3)]))).mp hl
          have hP := va_P_eq (w2 := bkW cI cM ad (mdQ sg r N z (i + 1)) (txW cC t sg (nI N) (fq sg r N (i + 1)) wr)) (by rw [if_pos c4, mdQ, if_pos (Or.inl c3), dealQ, k1_, k2_, k3_, ← (fq_N (by have := (nI_eq (a := i) (b := N) (by omega) (by omega)).mp c3; omega))]) hP
          have hD := va_D_eq (w2 := bkW cI cM ad (mdQ sg r N z (i + 1)) (txW cC t sg (nI N) (fq sg r N (i + 1)) wr)) (by rw [if_pos c4, mdQ, if_pos (Or.inl c3), dealQ, k1_, k2_, k3_, ← (fq_N (by have := (nI_eq (a := i) (b := N) (by omega) (by omega)).mp c3; omega))]) hD
          exact ih11 (i + 1) (by omega) (md_deal hinv11 li (Or.inl c3) (by unfold alwQ; rw [k1_, k2_, k3_]; exact c4)) _ _ hP hD hS ls (lv_sub hl [2, 3, 1, 0] rfl)
        · have c4 := bI_0 c4
          refine lv_iload_n hx hb dX2_makeDeals_49 rfl (lv_at hl 2 rfl) ?_
          exact z_iret hx hb hr hlocks hP hD hK hS (by rw [md_stop hinv11 li (Or.inl c3) (by unfold alwQ; rw [k1_, k2_, k3_]; exact c4), if_neg c4]) (by rw [md_stop hinv11 li (Or.inl c3) (by unfold alwQ; rw [k1_, k2_, k3_]; exact c4)]) dX2_makeDeals_50
      · skip
        refine lv_aload_n hx hb dX2_makeDeals_27 rfl (lv_at hl 0 rfl) ?_
        have hiN : i ≠ N := fun q => c3 (by rw [q])
        refine va_get (v := .ref (t 1)) hx hb hts inTX2 hown hK hP (19 + (0)) ((bk_r).trans (tx_0)) rfl 0 (by decide) (hts _ qf_X2_9) (fun _ h9 => h9) (rfl) dX2_makeDeals_28 ?_
        refine lv_iload_n hx hb dX2_makeDeals_31 rfl (lv_at hl 3 rfl) ?_
        refine va_cald hx hb hK hP (19 + (1)) 1 ((bk_r).trans (tx_1)) rfl (vp_in_nI (show i < 60 by omega) (by omega)) dX2_makeDeals_32 ?_
        refine z_top (v2 := .int (sg i)) (congrArg Value.int (congrArg sg (z_cl rfl))) ?_
        refine lv_bipush (v := 59) hx hb dX2_makeDeals_33 (by decide) ?_
        refine lv_icmp_ne (tgt := 54) hx hb dX2_makeDeals_35 (by decide) (fun c6 => ?_) (fun c6 => ?_)
        · skip
          refine lv_iload_n hx hb dX2_makeDeals_54 rfl (lv_at hl 3 rfl) ?_
          refine lv_aload_n hx hb dX2_makeDeals_55 rfl (lv_at hl 0 rfl) ?_
          refine va_get (v := .int (nI N)) hx hb hts inTX2 hown hK hP (19 + (0)) ((bk_r).trans (tx_0)) rfl 2 (by decide) (hts _ qf_X2_22) (fun _ h9 => h9) (rfl) dX2_makeDeals_56 ?_
          refine lv_icmp_ge (tgt := 76) hx hb dX2_makeDeals_59 (by decide) (fun c7 => absurd c7 (nI_ge (a := i) (b := N) (by omega) (by omega))) (fun c7 => ?_)
          have c7 := z_lt c7
          refine lv_aload_n hx hb dX2_makeDeals_62 rfl (lv_at hl 0 rfl) ?_
          refine va_get (v := .ref (t 2)) hx hb hts inTX2 hown hK hP (19 + (0)) ((bk_r).trans (tx_0)) rfl 1 (by decide) (hts _ qf_X2_18) (fun _ h9 => h9) (rfl) dX2_makeDeals_63 ?_
          refine lv_aload_n hx hb dX2_makeDeals_66 rfl (lv_at hl 0 rfl) ?_
          refine va_get (v := .ref (t 1)) hx hb hts inTX2 hown hK hP (19 + (0)) ((bk_r).trans (tx_0)) rfl 0 (by decide) (hts _ qf_X2_9) (fun _ h9 => h9) (rfl) dX2_makeDeals_67 ?_
          refine lv_iload_n hx hb dX2_makeDeals_70 rfl (lv_at hl 3 rfl) ?_
          refine va_cald hx hb hK hP (19 + (1)) 1 ((bk_r).trans (tx_1)) rfl (vp_in_nI (show i < 60 by omega) (by omega)) dX2_makeDeals_71 ?_
          refine z_top (v2 := .int (sg i)) (congrArg Value.int (congrArg sg (z_cl rfl))) ?_
          refine z_callV1 (rest := []) S (c_X1_takes (sg i)) qm_X2_29 v_X1_takes ⟨Nat.le_of_ble_eq_true rfl, Nat.le_of_ble_eq_true rfl⟩ rfl rfl hN hK hP hD hS hA (19 + (2)) ((bk_r).trans (tx_2)) rfl rfl hl.1 rfl (Nat.le_of_ble_eq_true rfl) dX2_makeDeals_72 ⟨Nat.le_of_ble_eq_true rfl, Nat.le_of_ble_eq_true rfl⟩ (fun H locs hP hD hS => ?_)
          refine lv_pop hx hb dX2_makeDeals_75 rfl ?_
          refine lv_iinc (v := nI (i + 1)) (lv' := [(3, .int (nI (i + 1))), (0, .ref (t 0)), (1, .ref (ad 0)), (2, .int (mdK sg N i))]) hx hb dX2_makeDeals_76 hl (k := 3) rfl (nI_1 _) (by decide) rfl (fun ls hl => ?_)
          refine lv_goto (tgt := 11) hx hb dX2_makeDeals_79 (by decide) ?_
          have hl := (congrArg (fun q => lv_has ls 4 [(3, .int (nI (i + 1))), (0, .ref (t 0)), (1, .ref (ad 0)), (2, q)]) (show Value.int (mdK sg N i) = .int (mdK sg N (i + 1)) from congrArg Value.int (by rw [mdK, if_neg (fun q => q.elim c3 c6)]))).mp hl
          have hP := va_P_eq (w2 := bkW cI cM ad (mdQ sg r N z (i + 1)) (txW cC t sg (nI N) (fq sg r N (i + 1)) wr)) (by rw [mdQ, if_neg (fun q => q.elim c3 c6), ← fq_lt (sg := sg) (r := r) (show i < N by omega)]) hP
          have hD := va_D_eq (w2 := bkW cI cM ad (mdQ sg r N z (i + 1)) (txW cC t sg (nI N) (fq sg r N (i + 1)) wr)) (by rw [mdQ, if_neg (fun q => q.elim c3 c6), ← fq_lt (sg := sg) (r := r) (show i < N by omega)]) hD
          exact ih11 (i + 1) (by omega) (md_skip hinv11 li (fun q => q.elim c3 c6)) _ _ hP hD hS ls (lv_sub hl [1, 2, 3, 0] rfl)
        · skip
          refine lv_aload_n hx hb dX2_makeDeals_38 rfl (lv_at hl 0 rfl) ?_
          obtain ⟨gv_, tv_, kv_, hg_, ht_, hgt_, hk_, h1_, h2_, h3_⟩ := hrow i li (Or.inr c6)
          obtain ⟨k1_, k2_, k3_⟩ := rd_gT hg_ ht_ hk_ h1_ h2_ h3_
          refine va_get (v := .ref (t 2)) hx hb hts inTX2 hown hK hP (19 + (0)) ((bk_r).trans (tx_0)) rfl 1 (by decide) (hts _ qf_X2_18) (fun _ h9 => h9) (rfl) dX2_makeDeals_39 ?_
          refine lv_aload_n hx hb dX2_makeDeals_42 rfl (lv_at hl 1 rfl) ?_
          refine z_callV1 (rest := []) S (c_X1_makesDeal (n := n) (show n ≤ 8 by omega) ((mdQ_5 _ (by omega) (by omega) (by omega)).trans hz) hg_ ht_ hgt_ hk_ h1_ h2_ h3_) qm_X2_41 v_X1_makesDeal ⟨Nat.le_of_ble_eq_true rfl, Nat.le_of_ble_eq_true rfl⟩ rfl rfl hN hK hP hD hS hA (19 + (2)) ((bk_r).trans (tx_2)) rfl rfl hl.1 rfl (Nat.le_of_ble_eq_true rfl) dX2_makeDeals_43 ⟨Nat.le_of_ble_eq_true rfl, Nat.le_of_ble_eq_true rfl⟩ (fun H locs hP hD hS => ?_)
          refine lv_if_ne (tgt := 51) hx hb dX2_makeDeals_46 (by decide) (fun c8 => ?_) (fun c8 => ?_)
          · have c8 := bI_1 c8
            refine lv_iinc (v := (mdK sg N i) + 1) (lv' := [(2, .int ((mdK sg N i) + 1)), (0, .ref (t 0)), (1, .ref (ad 0)), (3, .int (nI i))]) hx hb dX2_makeDeals_51 hl (k := 2) rfl (by rfl) (by decide) rfl (fun ls hl => ?_)
            refine lv_iload_n hx hb dX2_makeDeals_54 rfl (lv_at hl 3 rfl) ?_
            refine lv_aload_n hx hb dX2_makeDeals_55 rfl (lv_at hl 1 rfl) ?_
            refine va_get (v := .int (nI N)) hx hb hts inTX2 hown hK hP (19 + (0)) ((bk_r).trans (tx_0)) rfl 2 (by decide) (hts _ qf_X2_22) (fun _ h9 => h9) (rfl) dX2_makeDeals_56 ?_
            refine lv_icmp_ge (tgt := 76) hx hb dX2_makeDeals_59 (by decide) (fun c9 => absurd c9 (nI_ge (a := i) (b := N) (by omega) (by omega))) (fun c9 => ?_)
            have c9 := z_lt c9
            refine lv_aload_n hx hb dX2_makeDeals_62 rfl (lv_at hl 1 rfl) ?_
            refine va_get (v := .ref (t 2)) hx hb hts inTX2 hown hK hP (19 + (0)) ((bk_r).trans (tx_0)) rfl 1 (by decide) (hts _ qf_X2_18) (fun _ h9 => h9) (rfl) dX2_makeDeals_63 ?_
            refine lv_aload_n hx hb dX2_makeDeals_66 rfl (lv_at hl 1 rfl) ?_
            refine va_get (v := .ref (t 1)) hx hb hts inTX2 hown hK hP (19 + (0)) ((bk_r).trans (tx_0)) rfl 0 (by decide) (hts _ qf_X2_9) (fun _ h9 => h9) (rfl) dX2_makeDeals_67 ?_
            refine lv_iload_n hx hb dX2_makeDeals_70 rfl (lv_at hl 3 rfl) ?_
            refine va_cald hx hb hK hP (19 + (1)) 1 ((bk_r).trans (tx_1)) rfl (vp_in_nI (show i < 60 by omega) (by omega)) dX2_makeDeals_71 ?_
            refine z_top (v2 := .int (sg i)) (congrArg Value.int (congrArg sg (z_cl rfl))) ?_
            refine z_callV1 (rest := []) S (c_X1_takes (sg i)) qm_X2_29 v_X1_takes ⟨Nat.le_of_ble_eq_true rfl, Nat.le_of_ble_eq_true rfl⟩ rfl rfl hN hK hP hD hS hA (19 + (2)) ((bk_r).trans (tx_2)) rfl rfl hl.1 rfl (Nat.le_of_ble_eq_true rfl) dX2_makeDeals_72 ⟨Nat.le_of_ble_eq_true rfl, Nat.le_of_ble_eq_true rfl⟩ (fun H locs hP hD hS => ?_)
            refine lv_pop hx hb dX2_makeDeals_75 rfl ?_
            refine lv_iinc (v := nI (i + 1)) (lv' := [(3, .int (nI (i + 1))), (2, .int ((mdK sg N i) + 1)), (0, .ref (t 0)), (1, .ref (ad 0))]) hx hb dX2_makeDeals_76 hl (k := 3) rfl (nI_1 _) (by decide) rfl (fun ls hl => ?_)
            refine lv_goto (tgt := 11) hx hb dX2_makeDeals_79 (by decide) ?_
            have hl := (congrArg (fun q => lv_has ls 4 [(3, .int (nI (i + 1))), (2, q), (0, .ref (t 0)), (1, .ref (ad 0))]) (show Value.int ((mdK sg N i) + 1) = .int (mdK sg N (i + 1)) from congrArg Value.int (by rw [mdK, if_pos (Or.inr c6)]))).mp hl
            have hP := va_P_eq (w2 := bkW cI cM ad (mdQ sg r N z (i + 1)) (txW cC t sg (nI N) (fq sg r N (i + 1)) wr)) (by rw [if_pos c8, mdQ, if_pos (Or.inr c6), dealQ, k1_, k2_, k3_, ← (fq_lt (by omega))]) hP
            have hD := va_D_eq (w2 := bkW cI cM ad (mdQ sg r N z (i + 1)) (txW cC t sg (nI N) (fq sg r N (i + 1)) wr)) (by rw [if_pos c8, mdQ, if_pos (Or.inr c6), dealQ, k1_, k2_, k3_, ← (fq_lt (by omega))]) hD
            exact ih11 (i + 1) (by omega) (md_deal hinv11 li (Or.inr c6) (by unfold alwQ; rw [k1_, k2_, k3_]; exact c8)) _ _ hP hD hS ls (lv_sub hl [2, 3, 1, 0] rfl)
          · have c8 := bI_0 c8
            refine lv_iload_n hx hb dX2_makeDeals_49 rfl (lv_at hl 2 rfl) ?_
            exact z_iret hx hb hr hlocks hP hD hK hS (by rw [md_stop hinv11 li (Or.inr c6) (by unfold alwQ; rw [k1_, k2_, k3_]; exact c8), if_neg c8]) (by rw [md_stop hinv11 li (Or.inr c6) (by unfold alwQ; rw [k1_, k2_, k3_]; exact c8)]) dX2_makeDeals_50
  have hl := (congrArg (fun q => lv_has ls 4 [(3, .int 0), (2, q), (0, .ref (t 0)), (1, .ref (ad 0))]) (show Value.int 0 = .int (mdK sg N 0) from congrArg Value.int (rfl))).mp hl
  have hl := (congrArg (fun q => lv_has ls 4 [(3, q), (2, .int (mdK sg N 0)), (0, .ref (t 0)), (1, .ref (ad 0))]) (show Value.int 0 = .int (nI 0) from congrArg Value.int (rfl))).mp hl
  have hP := va_P_eq (w2 := bkW cI cM ad (mdQ sg r N z 0) (txW cC t sg (nI N) (fq sg r N 0) wr)) (congrArg (fun q_ => bkW cI cM ad z (txW cC t sg (nI N) q_ wr)) fq_0) hP
  have hD := va_D_eq (w2 := bkW cI cM ad (mdQ sg r N z 0) (txW cC t sg (nI N) (fq sg r N 0) wr)) (congrArg (fun q_ => bkW cI cM ad z (txW cC t sg (nI N) q_ wr)) fq_0) hD
  exact K11 (N + 1) 0 (by omega) rfl _ _ hP hD hS ls (lv_sub hl [2, 3, 1, 0] rfl)
end XB

