/-! The saved states: six banks in a ring. -/
def hsW (cB : ClassId) (h : Nat → Nat) (ah : Nat → Nat → Nat) (nx kp : Int32) (wr : va_W) : va_W := (h 0, .inr (3, [.ref (h 1), .int nx, .int kp])) :: (h 1, .inl (cB, 6, .inr (.inr (.inr (.inr (fun i => some (ah i 0))))))) :: wr
def xoW (x : Nat) (ad h t : Nat → Nat) (wr : va_W) : va_W := (x, .inr (5, [.ref (ad 0), .ref (h 0), .ref (t 0)])) :: wr
def hbW (cI cM : ClassId) (ah : Nat → Nat → Nat) (zh : Nat → Nat → Int32) (wr : va_W) : va_W := bkW cI cM (ah 0) (zh 0) (bkW cI cM (ah 1) (zh 1) (bkW cI cM (ah 2) (zh 2) (bkW cI cM (ah 3) (zh 3) (bkW cI cM (ah 4) (zh 4) (bkW cI cM (ah 5) (zh 5) wr)))))
def zup (zh : Nat → Nat → Int32) (k : Nat) (z : Nat → Int32) : Nat → Nat → Int32 := fun i => if i = k then z else zh i
section HS
variable {cI cC cM cB : ClassId} {ad h t : Nat → Nat} {ah : Nat → Nat → Nat} {zh : Nat → Nat → Int32} {z : Nat → Int32} {nx kp : Int32} {wr : va_W} {k x : Nat}
theorem hs_0 : (hsW cB h ah nx kp wr)[0]? = some (h 0, .inr (3, [.ref (h 1), .int nx, .int kp])) := rfl
theorem hs_1 : (hsW cB h ah nx kp wr)[1]? = some (h 1, .inl (cB, 6, .inr (.inr (.inr (.inr (fun i => some (ah i 0))))))) := rfl
theorem hs_r : (hsW cB h ah nx kp wr)[2 + k]? = wr[k]? := by rw [show 2 + k = k + 1 + 1 by omega]; rfl
theorem hs_rs {q : Nat × va_E} : (hsW cB h ah nx kp wr).set (2 + k) q = hsW cB h ah nx kp (wr.set k q) := by rw [show 2 + k = k + 1 + 1 by omega]; rfl
theorem xo_0 : (xoW x ad h t wr)[0]? = some (x, .inr (5, [.ref (ad 0), .ref (h 0), .ref (t 0)])) := rfl
theorem xo_r : (xoW x ad h t wr)[1 + k]? = wr[k]? := by rw [show 1 + k = k + 1 by omega]; rfl
theorem xo_rs {q : Nat × va_E} : (xoW x ad h t wr).set (1 + k) q = xoW x ad h t (wr.set k q) := by rw [show 1 + k = k + 1 by omega]; rfl
theorem z_rfh {i : Int32} (hi : i = nI k) (hk : k < 2 ^ 31 := by omega) : va_rf ((fun j => some (ah j 0)) i.toNatClampNeg) = .ref (ah k 0) := by rw [hi, nI_clamp hk]; rfl
theorem bkW_app : bkW cI cM ad z wr = bkW cI cM ad z [] ++ wr := rfl
theorem lt6 {P : Nat → Prop} (h0 : P 0) (h1 : P 1) (h2 : P 2) (h3 : P 3) (h4 : P 4) (h5 : P 5) {j : Nat} (hj : j < 6) : P j := by
  match j, hj with
  | 0, _ => exact h0
  | 1, _ => exact h1
  | 2, _ => exact h2
  | 3, _ => exact h3
  | 4, _ => exact h4
  | 5, _ => exact h5
theorem mv1 {X R B Y : va_W} (h : List.Perm R (B ++ Y)) : List.Perm (X ++ R) (B ++ (X ++ Y)) := (h.append_left X).trans (by rw [← List.append_assoc, ← List.append_assoc]; exact (List.perm_append_comm).append_right Y)
theorem hb_perm (hk : k < 6) : ∃ Y : va_W, ∀ z2 : Nat → Int32, List.Perm (hbW cI cM ah (zup zh k z2) wr) (bkW cI cM (ah k) z2 Y) :=
  lt6 (P := fun k => ∃ Y : va_W, ∀ z2 : Nat → Int32, List.Perm (hbW cI cM ah (zup zh k z2) wr) (bkW cI cM (ah k) z2 Y))
    ⟨bkW cI cM (ah 1) (zh 1) (bkW cI cM (ah 2) (zh 2) (bkW cI cM (ah 3) (zh 3) (bkW cI cM (ah 4) (zh 4) (bkW cI cM (ah 5) (zh 5) (wr))))), fun z2 => List.Perm.refl (bkW cI cM (ah 0) z2 [] ++ (bkW cI cM (ah 1) (zh 1) (bkW cI cM (ah 2) (zh 2) (bkW cI cM (ah 3) (zh 3) (bkW cI cM (ah 4) (zh 4) (bkW cI cM (ah 5) (zh 5) (wr)))))))⟩
    ⟨bkW cI cM (ah 0) (zh 0) (bkW cI cM (ah 2) (zh 2) (bkW cI cM (ah 3) (zh 3) (bkW cI cM (ah 4) (zh 4) (bkW cI cM (ah 5) (zh 5) (wr))))), fun z2 => mv1 (X := bkW cI cM (ah 0) (zh 0) []) (List.Perm.refl (bkW cI cM (ah 1) z2 [] ++ (bkW cI cM (ah 2) (zh 2) (bkW cI cM (ah 3) (zh 3) (bkW cI cM (ah 4) (zh 4) (bkW cI cM (ah 5) (zh 5) (wr)))))))⟩
    ⟨bkW cI cM (ah 0) (zh 0) (bkW cI cM (ah 1) (zh 1) (bkW cI cM (ah 3) (zh 3) (bkW cI cM (ah 4) (zh 4) (bkW cI cM (ah 5) (zh 5) (wr))))), fun z2 => mv1 (X := bkW cI cM (ah 0) (zh 0) []) (mv1 (X := bkW cI cM (ah 1) (zh 1) []) (List.Perm.refl (bkW cI cM (ah 2) z2 [] ++ (bkW cI cM (ah 3) (zh 3) (bkW cI cM (ah 4) (zh 4) (bkW cI cM (ah 5) (zh 5) (wr)))))))⟩
    ⟨bkW cI cM (ah 0) (zh 0) (bkW cI cM (ah 1) (zh 1) (bkW cI cM (ah 2) (zh 2) (bkW cI cM (ah 4) (zh 4) (bkW cI cM (ah 5) (zh 5) (wr))))), fun z2 => mv1 (X := bkW cI cM (ah 0) (zh 0) []) (mv1 (X := bkW cI cM (ah 1) (zh 1) []) (mv1 (X := bkW cI cM (ah 2) (zh 2) []) (List.Perm.refl (bkW cI cM (ah 3) z2 [] ++ (bkW cI cM (ah 4) (zh 4) (bkW cI cM (ah 5) (zh 5) (wr)))))))⟩
    ⟨bkW cI cM (ah 0) (zh 0) (bkW cI cM (ah 1) (zh 1) (bkW cI cM (ah 2) (zh 2) (bkW cI cM (ah 3) (zh 3) (bkW cI cM (ah 5) (zh 5) (wr))))), fun z2 => mv1 (X := bkW cI cM (ah 0) (zh 0) []) (mv1 (X := bkW cI cM (ah 1) (zh 1) []) (mv1 (X := bkW cI cM (ah 2) (zh 2) []) (mv1 (X := bkW cI cM (ah 3) (zh 3) []) (List.Perm.refl (bkW cI cM (ah 4) z2 [] ++ (bkW cI cM (ah 5) (zh 5) (wr)))))))⟩
    ⟨bkW cI cM (ah 0) (zh 0) (bkW cI cM (ah 1) (zh 1) (bkW cI cM (ah 2) (zh 2) (bkW cI cM (ah 3) (zh 3) (bkW cI cM (ah 4) (zh 4) (wr))))), fun z2 => mv1 (X := bkW cI cM (ah 0) (zh 0) []) (mv1 (X := bkW cI cM (ah 1) (zh 1) []) (mv1 (X := bkW cI cM (ah 2) (zh 2) []) (mv1 (X := bkW cI cM (ah 3) (zh 3) []) (mv1 (X := bkW cI cM (ah 4) (zh 4) []) (List.Perm.refl (bkW cI cM (ah 5) z2 [] ++ (wr)))))))⟩ hk
theorem zup_same (zh : Nat → Nat → Int32) (k : Nat) : zup zh k (zh k) = zh := by
  funext i; simp only [zup]; split
  · rename_i e; rw [e]
  · rfl
/-- contracts know no order of the cells -/
theorem va_P_perm {D : va_G} {cl : List vw_C} {w w2 : va_W} {H : Heap} (h : List.Perm w w2) (hP : va_P D cl w H) : va_P D cl w2 H := fun k q hq => by
  have h1 : q ∈ w := h.mem_iff.mpr (List.mem_of_getElem? hq)
  obtain ⟨i, hi⟩ := List.getElem?_of_mem h1
  exact hP i q hi
theorem va_D_nd {A : Nat → Prop} {w : va_W} : va_D A w ↔ (w.map Prod.fst).Nodup ∧ ∀ q ∈ w, A q.1 := by
  constructor
  · intro h
    refine ⟨?_, fun q hq => ?_⟩
    · refine List.pairwise_iff_getElem.mpr (fun i j hi hj hij e => ?_)
      have hi' : i < w.length := by rwa [List.length_map] at hi
      have hj' : j < w.length := by rwa [List.length_map] at hj
      rw [List.getElem_map, List.getElem_map] at e
      have := h.1 i j w[i] w[j] (List.getElem?_eq_getElem hi') (List.getElem?_eq_getElem hj') e
      omega
    · obtain ⟨i, hi⟩ := List.getElem?_of_mem hq
      exact h.2 i q hi
  · intro h
    refine ⟨fun i j p q hp hq e => ?_, fun k q hq => h.2 q (List.mem_of_getElem? hq)⟩
    have hi : i < (w.map Prod.fst).length := by rw [List.length_map]; exact (List.getElem?_eq_some_iff.mp hp).1
    have h1 : (w.map Prod.fst)[i]? = some p.1 := by rw [List.getElem?_map, hp]; rfl
    have h2 : (w.map Prod.fst)[j]? = some q.1 := by rw [List.getElem?_map, hq]; rfl
    exact (List.getElem?_inj hi h.1).mp (by rw [h1, h2, e])
theorem va_D_perm {A : Nat → Prop} {w w2 : va_W} (h : List.Perm w w2) (hD : va_D A w) : va_D A w2 := by
  rw [va_D_nd] at hD ⊢
  exact ⟨(h.map Prod.fst).nodup_iff.mp hD.1, fun q hq => hD.2 q (h.mem_iff.mpr hq)⟩
theorem va_A_perm {w w2 : va_W} (h : List.Perm w w2) (sz : Nat) : va_A w sz = va_A w2 sz := by
  funext q
  apply propext
  constructor
  · rintro (⟨k, e, hk⟩ | hq)
    · obtain ⟨i, hi⟩ := List.getElem?_of_mem (h.mem_iff.mp (List.mem_of_getElem? hk))
      exact Or.inl ⟨i, e, hi⟩
    · exact Or.inr hq
  · rintro (⟨k, e, hk⟩ | hq)
    · obtain ⟨i, hi⟩ := List.getElem?_of_mem (h.mem_iff.mpr (List.mem_of_getElem? hk))
      exact Or.inl ⟨i, e, hi⟩
    · exact Or.inr hq
theorem zM_perm {l : Launch} {D : va_G} {T : List (ClassId × FieldType)} {y : MethodName} {cy : ByteArray} {mL : Nat} {rt : Option FieldType} {rm : Room} {as : List Value} {w w2 wp wp2 : va_W} {rv : Option Value} {mc ms : Nat} (h1 : List.Perm w wp) (h2 : List.Perm wp2 w2) (M : zM l D T y cy mL rt rm as wp wp2 rv mc ms) : zM l D T y cy mL rt rm as w w2 rv mc ms := by
  have e1 : zW D T w = zW D T wp := by
    funext sz U
    apply propext
    exact ⟨fun ⟨a, b, c, d, e⟩ => ⟨a, va_P_perm h1 b, c, va_D_perm h1 d, e⟩, fun ⟨a, b, c, d, e⟩ => ⟨a, va_P_perm h1.symm b, c, va_D_perm h1.symm d, e⟩⟩
  have e2 : zE D T w2 = zE D T wp2 := by
    funext A t
    apply propext
    exact ⟨fun ⟨a, b, c⟩ => ⟨va_P_perm h2.symm a, b, va_D_perm h2.symm c⟩, fun ⟨a, b, c⟩ => ⟨va_P_perm h2 a, b, va_D_perm h2 c⟩⟩
  intro sz
  have := M sz
  rw [e1, va_A_perm h1]
  unfold zQ at this ⊢
  rw [e2]
  exact this
end HS
section HC
variable {l : Launch} {D : va_G} {cI cC cM cB cJ : ClassId} {ad ad2 : Nat → Nat} {z z2 : Nat → Int32} {wr : va_W} {t h : Nat → Nat} {ah : Nat → Nat → Nat} {zh : Nat → Nat → Int32} {x : Nat} {sg : Nat → Int32} {r : Nat → Int32} {sz : Int32}
abbrev xw0 (cI cC cM cB : ClassId) (ad : Nat → Nat) (z : Nat → Int32) (t : Nat → Nat) (sg : Nat → Int32) (sz : Int32) (r : Nat → Int32) (x : Nat) (h : Nat → Nat) (ah : Nat → Nat → Nat) (nx kp : Int32) (zh : Nat → Nat → Int32) (wr : va_W) : va_W := bkW cI cM ad z (txW cC t sg sz r (xoW x ad h t (hsW cB h ah nx kp (hbW cI cM ah zh wr))))
theorem xw_perm {k : Nat} {nx kp : Int32} (hk : k < 6) : ∃ Y : va_W, ∀ z1 z2 : Nat → Int32, List.Perm (xw0 cI cC cM cB ad z1 t sg sz r x h ah nx kp (zup zh k z2) wr) (bkW cI cM (ah k) z2 (bkW cI cM ad z1 Y)) := by
  obtain ⟨Y, hY⟩ := hb_perm (cI := cI) (cM := cM) (ah := ah) (zh := zh) (wr := wr) hk
  exact ⟨_, fun z1 z2 => mv1 (X := bkW cI cM ad z1 []) (B := bkW cI cM (ah k) z2 []) (mv1 (X := txW cC t sg sz r []) (mv1 (X := xoW x ad h t []) (mv1 (X := hsW cB h ah nx kp []) (hY z2))))⟩
theorem xw_perm2 {k : Nat} {nx kp : Int32} (hk : k < 6) : ∃ Y : va_W, ∀ z1 z2 : Nat → Int32, List.Perm (xw0 cI cC cM cB ad z1 t sg sz r x h ah nx kp (zup zh k z2) wr) (bkW cI cM ad z1 (bkW cI cM (ah k) z2 Y)) := by
  obtain ⟨Y, hY⟩ := hb_perm (cI := cI) (cM := cM) (ah := ah) (zh := zh) (wr := wr) hk
  exact ⟨_, fun z1 z2 => List.Perm.append_left (bkW cI cM ad z1 []) (mv1 (X := txW cC t sg sz r []) (B := bkW cI cM (ah k) z2 []) (mv1 (X := xoW x ad h t []) (mv1 (X := hsW cB h ah nx kp []) (hY z2))))⟩
theorem hb_at {k : Nat} {nx kp : Int32} (hk : k < 6) : ∃ (q0 : Nat) (fs : List Value), (xw0 cI cC cM cB ad z t sg sz r x h ah nx kp zh wr)[q0]? = some (ah k 0, .inr (0, fs)) := by
  obtain ⟨Y, hY⟩ := xw_perm (cI := cI) (cC := cC) (cM := cM) (cB := cB) (ad := ad) (t := t) (sg := sg) (sz := sz) (r := r) (x := x) (h := h) (ah := ah) (nx := nx) (kp := kp) (zh := zh) (wr := wr) hk
  have h1 := hY z (zh k)
  rw [zup_same] at h1
  obtain ⟨i, hi⟩ := List.getElem?_of_mem (h1.mem_iff.mpr (List.mem_cons_self (a := ((ah k 0, Sum.inr (0, bfs (ah k) (zh k))) : Nat × va_E))))
  exact ⟨i, _, hi⟩
abbrev hBool (z : Nat → Int32) : Prop := ∀ i : Nat, i < 8 → (z (14 + 16 * i) = 0 ∨ z (14 + 16 * i) = 1) ∧ (z (14 + 16 * i + 4) = 0 ∨ z (14 + 16 * i + 4) = 1)
theorem c_keep_copy {k : Nat} {nx kp : Int32} (hk : k < 6) (hB : hBool z) : zM l D (zT cI cC cM cB cJ) yX0_copyFrom cX0_copyFrom 3 none ({ frames := 1, cells := 0, slots := 0, locals := 22 } : Room) [.ref (ah k 0), .ref (ad 0)] (xw0 cI cC cM cB ad z t sg sz r x h ah nx kp zh wr) (xw0 cI cC cM cB ad z t sg sz r x h ah nx kp (zup zh k z) wr) none 0 0 := by
  obtain ⟨Y, hY⟩ := xw_perm (cI := cI) (cC := cC) (cM := cM) (cB := cB) (ad := ad) (t := t) (sg := sg) (sz := sz) (r := r) (x := x) (h := h) (ah := ah) (nx := nx) (kp := kp) (zh := zh) (wr := wr) hk
  have h1 := hY z (zh k)
  rw [zup_same] at h1
  exact zM_perm h1 (hY z z).symm (c_X0_copyFrom hB)
theorem c_rest_copy {k : Nat} {nx kp : Int32} (hk : k < 6) (hB : hBool (zh k)) : zM l D (zT cI cC cM cB cJ) yX0_copyFrom cX0_copyFrom 3 none ({ frames := 1, cells := 0, slots := 0, locals := 22 } : Room) [.ref (ad 0), .ref (ah k 0)] (xw0 cI cC cM cB ad z t sg sz r x h ah nx kp zh wr) (xw0 cI cC cM cB ad (zh k) t sg sz r x h ah nx kp zh wr) none 0 0 := by
  obtain ⟨Y, hY⟩ := xw_perm2 (cI := cI) (cC := cC) (cM := cM) (cB := cB) (ad := ad) (t := t) (sg := sg) (sz := sz) (r := r) (x := x) (h := h) (ah := ah) (nx := nx) (kp := kp) (zh := zh) (wr := wr) hk
  have h1 := hY z (zh k)
  have h2 := hY (zh k) (zh k)
  rw [zup_same] at h1 h2
  exact zM_perm h1 h2.symm (c_X0_copyFrom hB)
end HC
theorem minP_6 {k : Nat} (h : k ≤ 6) : minP (nI (k + 1)) 6 = nI (min (k + 1) 6) := by
  have : k = 0 ∨ k = 1 ∨ k = 2 ∨ k = 3 ∨ k = 4 ∨ k = 5 ∨ k = 6 := by omega
  rcases this with rfl | rfl | rfl | rfl | rfl | rfl | rfl <;> decide
theorem rem6a {k : Nat} (h : k < 6) : nI (k + 1) - nI (k + 1) / 6 * 6 = nI ((k + 1) % 6) := pk_rem (d := 6) (by omega) (by decide) (by decide)
theorem rem6b {k : Nat} (h : k < 6) : nI k + 6 - 1 - (nI k + 6 - 1) / 6 * 6 = nI ((k + 5) % 6) := by
  have e : nI k + 6 - 1 = nI (k + 5) := by
    have : k = 0 ∨ k = 1 ∨ k = 2 ∨ k = 3 ∨ k = 4 ∨ k = 5 := by omega
    rcases this with rfl | rfl | rfl | rfl | rfl | rfl <;> decide
  rw [e]; exact pk_rem (d := 6) (by omega) (by decide) (by decide)

section XB
variable {l : Launch} {D : va_G} {cI cC cM cB cJ : ClassId} {ad ad2 : Nat → Nat} {z z2 : Nat → Int32} {wr : va_W} {t h : Nat → Nat} {ah : Nat → Nat → Nat} {zh : Nat → Nat → Int32} {x : Nat} {sg : Nat → Int32} {r : Nat → Int32} {sz : Int32}
set_option maxHeartbeats 4000000 in
set_option maxRecDepth 100000 in
theorem c_X3_keep {nx kp : Nat} (hnx : nx < 6) (hkp : kp ≤ 6) (hB : hBool z) : zM l D (zT cI cC cM cB cJ) yX3_keep cX3_keep 2 none ({ frames := 2, cells := 0, slots := 0, locals := 44 } : Room) [.ref (h 0), .ref (ad 0)] (bkW cI cM ad z (txW cC t sg sz r (xoW x ad h t (hsW cB h ah (nI nx) (nI kp) (hbW cI cM ah zh wr))))) (bkW cI cM ad z (txW cC t sg sz r (xoW x ad h t (hsW cB h ah (nI ((nx + 1) % 6)) (nI (min (kp + 1) 6)) (hbW cI cM ah (zup zh nx z) wr))))) none 0 0 := by
  refine z_enter (by decide) (Nat.le_of_ble_eq_true rfl) ?_
  intro p e s m below meth c A S hr hlocks hnm hN hA hK hP hD hS ls hl
  obtain ⟨hx, hb, hml, hown, hts⟩ := id S
  have hl : lv_has ls 2 [(0, .ref (h 0)), (1, .ref (ad 0))] := hl
  have hP : va_P D vwCl (bkW cI cM ad z (txW cC t sg sz r (xoW x ad h t (hsW cB h ah (nI nx) (nI kp) (hbW cI cM ah zh wr))))) s.heap := hP
  have hD : va_D A (bkW cI cM ad z (txW cC t sg sz r (xoW x ad h t (hsW cB h ah (nI nx) (nI kp) (hbW cI cM ah zh wr))))) := hD
  refine lv_aload_n hx hb dX3_keep_0 rfl (lv_at hl 0 rfl) ?_
  refine va_get (v := .ref (h 1)) hx hb hts inTX3 hown hK hP (19 + (3 + (1 + (0)))) ((bk_r).trans ((tx_r).trans ((xo_r).trans (hs_0)))) rfl 0 (by decide) (hts _ qf_X3_11) (fun _ h9 => h9) (rfl) dX3_keep_1 ?_
  refine lv_aload_n hx hb dX3_keep_4 rfl (lv_at hl 0 rfl) ?_
  refine va_get (v := .int (nI nx)) hx hb hts inTX3 hown hK hP (19 + (3 + (1 + (0)))) ((bk_r).trans ((tx_r).trans ((xo_r).trans (hs_0)))) rfl 1 (by decide) (hts _ qf_X3_18) (fun _ h9 => h9) (rfl) dX3_keep_5 ?_
  refine va_aldq hx hb hK hP (19 + (3 + (1 + (1)))) 3 ((bk_r).trans ((tx_r).trans ((xo_r).trans (hs_1)))) rfl (vp_in_nI (show nx < 6 by omega) (by omega)) dX3_keep_8 ?_
  refine z_top (v2 := .ref (ah nx 0)) (z_rfh rfl) ?_
  refine lv_aload_n hx hb dX3_keep_9 rfl (lv_at hl 1 rfl) ?_
  obtain ⟨q0_, fs_, he_⟩ := hb_at (cI := cI) (cC := cC) (cM := cM) (cB := cB) (ad := ad) (z := z) (t := t) (sg := sg) (sz := sz) (r := r) (x := x) (h := h) (ah := ah) (nx := (nI nx)) (kp := (nI kp)) (zh := zh) (wr := wr) (k := nx) (by omega)
  refine z_callV0 (rest := []) S (c_keep_copy (k := nx) (by omega) (by assumption)) qm_X3_22 v_X0_copyFrom ⟨Nat.le_of_ble_eq_true rfl, Nat.le_of_ble_eq_true rfl⟩ rfl rfl hN hK hP hD hS hA (q0_) (he_) rfl rfl hl.1 rfl (Nat.le_of_ble_eq_true rfl) dX3_keep_10 ⟨Nat.le_of_ble_eq_true rfl, Nat.le_of_ble_eq_true rfl⟩ (fun H locs hP hD hS => ?_)
  refine lv_aload_n hx hb dX3_keep_13 rfl (lv_at hl 0 rfl) ?_
  refine lv_aload_n hx hb dX3_keep_14 rfl (lv_at hl 0 rfl) ?_
  refine va_get (v := .int (nI nx)) hx hb hts inTX3 hown hK hP (19 + (3 + (1 + (0)))) ((bk_r).trans ((tx_r).trans ((xo_r).trans (hs_0)))) rfl 1 (by decide) (hts _ qf_X3_18) (fun _ h9 => h9) (rfl) dX3_keep_15 ?_
  refine lv_iconst (v := 1) hx hb dX3_keep_18 (by decide) ?_
  refine lv_iadd hx hb dX3_keep_19  ?_
  refine z_top (v2 := .int (nI (nx + 1))) (congrArg Value.int (nI_1 _)) ?_
  refine lv_bipush (v := 6) hx hb dX3_keep_20 (by decide) ?_
  refine lv_irem hx hb dX3_keep_22 (by decide) ?_
  refine z_top (v2 := .int (nI ((nx + 1) % 6))) (congrArg Value.int (rem6a hnx)) ?_
  refine z_put (v := .int (nI ((nx + 1) % 6))) (ty := .int) (ws2 := bkW cI cM ad z (txW cC t sg sz r (xoW x ad h t (hsW cB h ah (nI ((nx + 1) % 6)) (nI kp) (hbW cI cM ah (zup zh nx z) wr))))) hx hb hts inTX3 tyX3 tyX3_ok nmX3 hown hK hP hD hS (19 + (3 + (1 + (0)))) ((bk_r).trans ((tx_r).trans ((xo_r).trans (hs_0)))) rfl 1 (by decide) (hts _ qf_X3_18) (fun _ h9 => h9) rfl (by decide +kernel) (rfl) (rfl) (Nat.le_of_ble_eq_true rfl) dX3_keep_23 ((bk_rs).trans (congrArg (fun w_ => bkW cI cM ad z w_) ((tx_rs).trans (congrArg (fun w_ => txW cC t sg sz r w_) ((xo_rs).trans (congrArg (fun w_ => xoW x ad h t w_) (rfl))))))) (fun H locs hP hD hS => ?_)
  refine lv_aload_n hx hb dX3_keep_26 rfl (lv_at hl 0 rfl) ?_
  refine lv_aload_n hx hb dX3_keep_27 rfl (lv_at hl 0 rfl) ?_
  refine va_get (v := .int (nI kp)) hx hb hts inTX3 hown hK hP (19 + (3 + (1 + (0)))) ((bk_r).trans ((tx_r).trans ((xo_r).trans (hs_0)))) rfl 2 (by decide) (hts _ qf_X3_26) (fun _ h9 => h9) (rfl) dX3_keep_28 ?_
  refine lv_iconst (v := 1) hx hb dX3_keep_31 (by decide) ?_
  refine lv_iadd hx hb dX3_keep_32  ?_
  refine z_top (v2 := .int (nI (kp + 1))) (congrArg Value.int (nI_1 _)) ?_
  refine lv_bipush (v := 6) hx hb dX3_keep_33 (by decide) ?_
  refine va_mmin hx hb (hml.trans hl.1.symm) hown (hts _ qm_X3_29) (hts _ qt_Mmin) (hts _ qn_J9) (hts _ qc_Mmin) (Nat.le_of_ble_eq_true rfl) (Nat.le_of_ble_eq_true rfl) (Nat.le_of_ble_eq_true rfl) (Nat.le_of_ble_eq_true rfl) dX3_keep_35 ?_
  refine z_top (v2 := .int (nI (min (kp + 1) 6))) (congrArg Value.int (minP_6 hkp)) ?_
  refine z_put (v := .int (nI (min (kp + 1) 6))) (ty := .int) (ws2 := bkW cI cM ad z (txW cC t sg sz r (xoW x ad h t (hsW cB h ah (nI ((nx + 1) % 6)) (nI (min (kp + 1) 6)) (hbW cI cM ah (zup zh nx z) wr))))) hx hb hts inTX3 tyX3 tyX3_ok nmX3 hown hK hP hD hS (19 + (3 + (1 + (0)))) ((bk_r).trans ((tx_r).trans ((xo_r).trans (hs_0)))) rfl 2 (by decide) (hts _ qf_X3_26) (fun _ h9 => h9) rfl (by decide +kernel) (rfl) (rfl) (Nat.le_of_ble_eq_true rfl) dX3_keep_38 ((bk_rs).trans (congrArg (fun w_ => bkW cI cM ad z w_) ((tx_rs).trans (congrArg (fun w_ => txW cC t sg sz r w_) ((xo_rs).trans (congrArg (fun w_ => xoW x ad h t w_) (rfl))))))) (fun H locs hP hD hS => ?_)
  exact z_vret hx hb hr hlocks hP hD hK hS (rfl) (rfl) dX3_keep_41
end XB
