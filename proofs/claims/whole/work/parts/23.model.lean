/-! The reference's asks and its reader. -/
def lgM (z : Nat → Int32) (g t k : Nat) : Nat → Int32
  | 0 => -1
  | i + 1 => if cdP z g t k (nI (i + 1)) then nI (i + 1) else lgM z g t k i
theorem lgM_t {z : Nat → Int32} {g t k m : Nat} (hm : 0 < m) (c : cdP z g t k (nI m)) : lgM z g t k m = nI m := by
  obtain ⟨i, rfl⟩ : ∃ i, m = i + 1 := ⟨m - 1, by omega⟩
  rw [lgM, if_pos c]
theorem lgM_f {z : Nat → Int32} {g t k i : Nat} (hi : i < 600) (c : ¬ cdP z g t k (nI (600 - i))) : lgM z g t k (600 - i) = lgM z g t k (600 - (i + 1)) := by
  have e : 600 - i = (600 - (i + 1)) + 1 := by omega
  rw [e] at c ⊢
  rw [lgM, if_neg c]
theorem dn_s {i : Nat} (hi : i < 600) : nI (600 - i) + -1 = nI (600 - (i + 1)) := by
  have e : 600 - i = (600 - (i + 1)) + 1 := by omega
  rw [e]; exact pk_m1 _
def chM (z : Nat → Int32) (t k : Nat) (mn : Int32) : Nat → Int32
  | 0 => -1
  | i + 1 => if cdP z i t k mn then (if chM z t k mn i = -1 then nI i else if 0 < valP (z (25 + 16 * (chM z t k mn i).toNatClampNeg + k)) mn - valP (z (25 + 16 * i + k)) mn then nI i else if valP (z (25 + 16 * (chM z t k mn i).toNatClampNeg + k)) mn - valP (z (25 + 16 * i + k)) mn = 0 then (if z (14 + 16 * i + 1) < z (14 + 16 * (chM z t k mn i).toNatClampNeg + 1) then nI i else chM z t k mn i) else chM z t k mn i) else chM z t k mn i
theorem chM_nat {z : Nat → Int32} {t k : Nat} {mn : Int32} : ∀ {i : Nat}, i ≤ 8 → ¬ chM z t k mn i = -1 → ∃ b : Nat, b < 8 ∧ chM z t k mn i = nI b
  | 0, _, h => absurd rfl h
  | i + 1, hi, h => by
    rw [chM] at h ⊢
    split
    · rename_i q0
      rw [if_pos q0] at h
      split
      · exact ⟨i, by omega, rfl⟩
      · rename_i q1
        have ih := chM_nat (z := z) (t := t) (k := k) (mn := mn) (i := i) (by omega) q1
        split
        · exact ⟨i, by omega, rfl⟩
        · split
          · split
            · exact ⟨i, by omega, rfl⟩
            · exact ih
          · exact ih
    · rename_i q0
      rw [if_neg q0] at h
      exact chM_nat (by omega) h
def kpF (ke z : Nat → Int32) (i : Nat) : Nat → Int32 := fun q => if q < i then z q else ke q
theorem kpF_0 {ke z : Nat → Int32} : kpF ke z 0 = ke := by funext q; exact if_neg (by omega)
theorem kpF_s {ke z : Nat → Int32} {i : Nat} : upd (kpF ke z i) i (z i) = kpF ke z (i + 1) := by
  funext q
  by_cases e : q = i
  · subst e; rw [upd_eq rfl]; exact (if_pos (by omega)).symm
  · rw [upd_ne e]; unfold kpF
    by_cases h : q < i
    · rw [if_pos h, if_pos (by omega)]
    · rw [if_neg h, if_neg (by omega)]
def dcM (z : Nat → Int32) (n j wk : Nat) : Int32 := if wkS z n wk < wkI z n wk (14 + 16 * j + 9) - z (14 + 16 * j + 9) then -1 else wkI z n wk (14 + 16 * j + 9) - z (14 + 16 * j + 9)
/-! The reader: the parts, the row of numbers (read at 3, number at 4, due at 5) and how many deals are read. -/
abbrev Tst := (Nat → Int32) × (Nat → Int32) × Nat
def vM (mr : Nat → Int32) (x : Int32) : Int32 := if mr 4 = -1 then x else 10 * mr 4 + x
theorem vM_a {mr : Nat → Int32} {x : Int32} (h : mr 4 = -1) : x = vM mr x := (if_pos h).symm
theorem vM_b {mr : Nat → Int32} {x : Int32} (h : ¬ mr 4 = -1) : 10 * mr 4 + x = vM mr x := (if_neg h).symm
abbrev isM (mr : Nat → Int32) (x : Int32) : Prop := inP x 0 9 ∧ inP (vM mr x) 1 600
def nbM (mr : Nat → Int32) (x : Int32) : Int32 := if isM mr x then vM mr x else mr 4
theorem nbM_a {mr : Nat → Int32} {x : Int32} (h : isM mr x) : vM mr x = nbM mr x := (if_pos h).symm
theorem nbM_b {mr : Nat → Int32} {x : Int32} (h : ¬ isM mr x) : mr 4 = nbM mr x := (if_neg h).symm
def tMs (st : Tst) (x : Int32) : Tst :=
  if st.2.1 5 = 0 then (upd st.1 (4 * st.2.2 + 0) (x - 97), upd st.2.1 5 1, st.2.2)
  else if st.2.1 5 = 1 then (st.1, upd st.2.1 5 2, st.2.2)
  else if st.2.1 5 = 2 then (upd st.1 (4 * st.2.2 + 1) (x - 97), upd st.2.1 5 3, st.2.2)
  else if st.2.1 5 = 3 then (upd st.1 (4 * st.2.2 + 2) (x - 48), upd st.2.1 5 4, st.2.2)
  else if st.2.1 5 = 4 then (st.1, upd (upd st.2.1 4 (-1)) 5 5, st.2.2)
  else if x = 59 ∧ ¬ st.2.1 4 = -1 then (st.1, upd (upd st.2.1 3 (nI (st.2.2 + 1))) 5 0, st.2.2 + 1)
  else (upd st.1 (4 * st.2.2 + 3) (nbM st.2.1 (x - 48)), upd st.2.1 4 (nbM st.2.1 (x - 48)), st.2.2)
def tMv (st : Tst) (x : Int32) : Int32 :=
  if st.2.1 5 = 0 then bI (inP x 97 104)
  else if st.2.1 5 = 1 then bI (x = 62)
  else if st.2.1 5 = 2 then bI (inP x 97 104 ∧ ¬ (x - 97 = st.1 (4 * st.2.2)))
  else if st.2.1 5 = 3 then bI (sP (x - 48))
  else if st.2.1 5 = 4 then bI (x = 58)
  else if x = 59 ∧ ¬ st.2.1 4 = -1 then 1
  else bI (isM st.2.1 (x - 48))
theorem tMs_0 {st : Tst} {x : Int32} (h : st.2.1 5 = 0) : tMs st x = (upd st.1 (4 * st.2.2 + 0) (x - 97), upd st.2.1 5 1, st.2.2) := by unfold tMs; rw [if_pos h]
theorem tMv_0 {st : Tst} {x : Int32} (h : st.2.1 5 = 0) : tMv st x = bI (inP x 97 104) := by unfold tMv; rw [if_pos h]
theorem tMs_1 {st : Tst} {x : Int32} (h : st.2.1 5 = 1) : tMs st x = (st.1, upd st.2.1 5 2, st.2.2) := by unfold tMs; rw [if_neg (by rw [h]; decide), if_pos h]
theorem tMv_1 {st : Tst} {x : Int32} (h : st.2.1 5 = 1) : tMv st x = bI (x = 62) := by unfold tMv; rw [if_neg (by rw [h]; decide), if_pos h]
theorem tMs_2 {st : Tst} {x : Int32} (h : st.2.1 5 = 2) : tMs st x = (upd st.1 (4 * st.2.2 + 1) (x - 97), upd st.2.1 5 3, st.2.2) := by unfold tMs; rw [if_neg (by rw [h]; decide), if_neg (by rw [h]; decide), if_pos h]
theorem tMv_2 {st : Tst} {x : Int32} (h : st.2.1 5 = 2) : tMv st x = bI (inP x 97 104 ∧ ¬ (x - 97 = st.1 (4 * st.2.2))) := by unfold tMv; rw [if_neg (by rw [h]; decide), if_neg (by rw [h]; decide), if_pos h]
theorem tMs_3 {st : Tst} {x : Int32} (h : st.2.1 5 = 3) : tMs st x = (upd st.1 (4 * st.2.2 + 2) (x - 48), upd st.2.1 5 4, st.2.2) := by unfold tMs; rw [if_neg (by rw [h]; decide), if_neg (by rw [h]; decide), if_neg (by rw [h]; decide), if_pos h]
theorem tMv_3 {st : Tst} {x : Int32} (h : st.2.1 5 = 3) : tMv st x = bI (sP (x - 48)) := by unfold tMv; rw [if_neg (by rw [h]; decide), if_neg (by rw [h]; decide), if_neg (by rw [h]; decide), if_pos h]
theorem tMs_4 {st : Tst} {x : Int32} (h : st.2.1 5 = 4) : tMs st x = (st.1, upd (upd st.2.1 4 (-1)) 5 5, st.2.2) := by unfold tMs; rw [if_neg (by rw [h]; decide), if_neg (by rw [h]; decide), if_neg (by rw [h]; decide), if_neg (by rw [h]; decide), if_pos h]
theorem tMv_4 {st : Tst} {x : Int32} (h : st.2.1 5 = 4) : tMv st x = bI (x = 58) := by unfold tMv; rw [if_neg (by rw [h]; decide), if_neg (by rw [h]; decide), if_neg (by rw [h]; decide), if_neg (by rw [h]; decide), if_pos h]
theorem tMs_5 {st : Tst} {x : Int32} (h : (st.2.1 5).toInt < 0 ∨ 4 < (st.2.1 5).toInt) (h2 : x = 59 ∧ ¬ st.2.1 4 = -1) : tMs st x = (st.1, upd (upd st.2.1 3 (nI (st.2.2 + 1))) 5 0, st.2.2 + 1) := by
  obtain ⟨a0, a1, a2, a3, a4⟩ := z_out4 h
  unfold tMs; rw [if_neg a0, if_neg a1, if_neg a2, if_neg a3, if_neg a4, if_pos h2]
theorem tMv_5 {st : Tst} {x : Int32} (h : (st.2.1 5).toInt < 0 ∨ 4 < (st.2.1 5).toInt) (h2 : x = 59 ∧ ¬ st.2.1 4 = -1) : tMv st x = 1 := by
  obtain ⟨a0, a1, a2, a3, a4⟩ := z_out4 h
  unfold tMv; rw [if_neg a0, if_neg a1, if_neg a2, if_neg a3, if_neg a4, if_pos h2]
theorem tMs_6 {st : Tst} {x : Int32} (h : (st.2.1 5).toInt < 0 ∨ 4 < (st.2.1 5).toInt) (h2 : ¬ (x = 59 ∧ ¬ st.2.1 4 = -1)) : tMs st x = (upd st.1 (4 * st.2.2 + 3) (nbM st.2.1 (x - 48)), upd st.2.1 4 (nbM st.2.1 (x - 48)), st.2.2) := by
  obtain ⟨a0, a1, a2, a3, a4⟩ := z_out4 h
  unfold tMs; rw [if_neg a0, if_neg a1, if_neg a2, if_neg a3, if_neg a4, if_neg h2]
theorem tMv_6 {st : Tst} {x : Int32} (h : (st.2.1 5).toInt < 0 ∨ 4 < (st.2.1 5).toInt) (h2 : ¬ (x = 59 ∧ ¬ st.2.1 4 = -1)) : tMv st x = bI (isM st.2.1 (x - 48)) := by
  obtain ⟨a0, a1, a2, a3, a4⟩ := z_out4 h
  unfold tMv; rw [if_neg a0, if_neg a1, if_neg a2, if_neg a3, if_neg a4, if_neg h2]
def tM0 (pa mr : Nat → Int32) : Tst := (pa, upd (upd mr 3 0) 5 0, 0)
def smI (tx : Nat → Int32) (st : Tst) : Nat → Tst
  | 0 => st
  | i + 1 => tMs (smI tx st i) (tx i)
def fmN (tx : Nat → Int32) : Tst → Nat → Nat → Nat
  | _, i, 0 => i
  | st, i, m + 1 => if tMv st (tx i) = 0 then i else fmN tx (tMs st (tx i)) (i + 1) m
def fmS (tx : Nat → Int32) : Tst → Nat → Nat → Tst
  | st, _, 0 => st
  | st, i, m + 1 => if tMv st (tx i) = 0 then tMs st (tx i) else fmS tx (tMs st (tx i)) (i + 1) m
/-- how far a reader is: it grows by one a sign at most -/
def tMi (st : Tst) (nb : Int32) (i : Nat) : Prop := st.2.1 1 = nb ∧ st.2.1 3 = nI st.2.2 ∧ ∃ d : Nat, d ≤ 5 ∧ st.2.1 5 = nI d ∧ 7 * st.2.2 + d + (if d = 5 ∧ ¬ st.2.1 4 = -1 then 1 else 0) ≤ i
theorem tMi_mk {p m : Nat → Int32} {r d i : Nat} {nb : Int32} (h1 : m 1 = nb) (h3 : m 3 = nI r) (hd : d ≤ 5) (h5 : m 5 = nI d) (hp : 7 * r + d + (if d = 5 ∧ ¬ m 4 = -1 then 1 else 0) ≤ i) : tMi (p, m, r) nb i := ⟨h1, h3, d, hd, h5, hp⟩
theorem tMi_s {st : Tst} {nb x : Int32} {i : Nat} (h : tMi st nb i) : tMi (tMs st x) nb (i + 1) := by
  obtain ⟨h1, h3, d, hd, h5, hp⟩ := h
  have hp2 : 7 * st.2.2 + d ≤ i := by omega
  have : d = 0 ∨ d = 1 ∨ d = 2 ∨ d = 3 ∨ d = 4 ∨ d = 5 := by omega
  rcases this with rfl | rfl | rfl | rfl | rfl | rfl
  · rw [tMs_0 h5]
    exact tMi_mk (d := 1) ((upd_ne (by decide)).trans h1) ((upd_ne (by decide)).trans h3) (by decide) (upd_eq rfl) (by rw [if_neg (by omega)]; omega)
  · rw [tMs_1 h5]
    exact tMi_mk (d := 2) ((upd_ne (by decide)).trans h1) ((upd_ne (by decide)).trans h3) (by decide) (upd_eq rfl) (by rw [if_neg (by omega)]; omega)
  · rw [tMs_2 h5]
    exact tMi_mk (d := 3) ((upd_ne (by decide)).trans h1) ((upd_ne (by decide)).trans h3) (by decide) (upd_eq rfl) (by rw [if_neg (by omega)]; omega)
  · rw [tMs_3 h5]
    exact tMi_mk (d := 4) ((upd_ne (by decide)).trans h1) ((upd_ne (by decide)).trans h3) (by decide) (upd_eq rfl) (by rw [if_neg (by omega)]; omega)
  · rw [tMs_4 h5]
    refine tMi_mk (d := 5) ((upd_ne (by decide)).trans ((upd_ne (by decide)).trans h1)) ((upd_ne (by decide)).trans ((upd_ne (by decide)).trans h3)) (by decide) (upd_eq rfl) ?_
    have e : upd (upd st.2.1 4 (-1)) 5 5 4 = -1 := (upd_ne (by decide)).trans (upd_eq rfl)
    rw [if_neg (fun q => q.2 e)]
    omega
  · have ho : (st.2.1 5).toInt < 0 ∨ 4 < (st.2.1 5).toInt := by rw [h5]; decide
    by_cases h2 : x = 59 ∧ ¬ st.2.1 4 = -1
    · rw [tMs_5 ho h2]
      rw [if_pos ⟨rfl, h2.2⟩] at hp
      refine tMi_mk (d := 0) ((upd_ne (by decide)).trans ((upd_ne (by decide)).trans h1)) ((upd_ne (by decide)).trans (upd_eq rfl)) (by decide) (upd_eq rfl) ?_
      rw [if_neg (by omega)]
      omega
    · rw [tMs_6 ho h2]
      refine tMi_mk (d := 5) ((upd_ne (by decide)).trans h1) ((upd_ne (by decide)).trans h3) (by decide) ((upd_ne (by decide)).trans h5) ?_
      split <;> omega
theorem tMi_0 {pa mr : Nat → Int32} {nb : Int32} (h : mr 1 = nb) : tMi (tM0 pa mr) nb 0 :=
  tMi_mk (d := 0) ((upd_ne (by decide)).trans ((upd_ne (by decide)).trans h)) ((upd_ne (by decide)).trans (upd_eq rfl)) (by decide) (upd_eq rfl) (by rw [if_neg (by omega)]; omega)
theorem smI_i {tx pa mr : Nat → Int32} {nb : Int32} (h : mr 1 = nb) : ∀ i : Nat, tMi (smI tx (tM0 pa mr) i) nb i
  | 0 => tMi_0 h
  | i + 1 => tMi_s (smI_i h i)
theorem tMi_r {st : Tst} {nb : Int32} {i : Nat} (h : tMi st nb i) (hi : i < 70) : st.2.2 < 10 := by
  obtain ⟨h1, h3, d, hd, h5, hp⟩ := h; omega
abbrev fmI (tx pa mr : Nat → Int32) (m i : Nat) : Prop := fmN tx (tM0 pa mr) 0 m = fmN tx (smI tx (tM0 pa mr) i) i (m - i) ∧ fmS tx (tM0 pa mr) 0 m = fmS tx (smI tx (tM0 pa mr) i) i (m - i)
theorem fm_inv {tx pa mr : Nat → Int32} {m i : Nat} (h : fmI tx pa mr m i) (li : i < m) (c : ¬ tMv (smI tx (tM0 pa mr) i) (tx i) = 0) : fmI tx pa mr m (i + 1) := by
  unfold fmI at h ⊢
  rw [h.1, h.2, show m - i = (m - (i + 1)) + 1 by omega, fmN, fmS, if_neg c, if_neg c]
  exact ⟨rfl, rfl⟩
theorem fm_stop {tx pa mr : Nat → Int32} {m i : Nat} (h : fmI tx pa mr m i) (li : i < m) (c : tMv (smI tx (tM0 pa mr) i) (tx i) = 0) : fmN tx (tM0 pa mr) 0 m = i ∧ fmS tx (tM0 pa mr) 0 m = tMs (smI tx (tM0 pa mr) i) (tx i) := by
  rw [h.1, h.2, show m - i = (m - (i + 1)) + 1 by omega, fmN, fmS, if_pos c, if_pos c]
  exact ⟨rfl, rfl⟩
theorem fm_end {tx pa mr : Nat → Int32} {m : Nat} (h : fmI tx pa mr m m) : fmN tx (tM0 pa mr) 0 m = m ∧ fmS tx (tM0 pa mr) 0 m = smI tx (tM0 pa mr) m := by
  rw [h.1, h.2, Nat.sub_self]
  exact ⟨rfl, rfl⟩
theorem fmS_k {tx : Nat → Int32} {nb : Int32} : ∀ (m i : Nat) (st : Tst), tMi st nb i → tMi (fmS tx st i m) nb (i + m)
  | 0, i, st, h => h
  | m + 1, i, st, h => by
    rw [fmS]
    split
    · obtain ⟨a, b, d, hd, h5, hp⟩ := tMi_s (x := tx i) h
      exact ⟨a, b, d, hd, h5, by omega⟩
    · have := fmS_k (tx := tx) (nb := nb) m (i + 1) (tMs st (tx i)) (tMi_s h)
      rw [show i + (m + 1) = i + 1 + m by omega]; exact this
theorem fmS_i {tx pa mr : Nat → Int32} {nb : Int32} {m : Nat} (h : mr 1 = nb) (_ : m ≤ 60) : tMi (fmS tx (tM0 pa mr) 0 m) nb (0 + m) := fmS_k m 0 _ (tMi_0 h)

section XB
variable {l : Launch} {D : va_G} {cI cC cM cB cJ : ClassId} {q : Nat → Nat} {z hi tx pa ke mr : Nat → Int32} {hs : Int64} {wr : va_W}
set_option maxHeartbeats 4000000 in
set_option maxRecDepth 100000 in
theorem c_X6_longestNow (hB : hBool z) (g t k : Nat) (hg : g < 8) (ht : t < 8) (hk : k < 5) : zM l D (zT cI cC cM cB cJ) yX6_longestNow cX6_longestNow 5 (some .int) ({ frames := 4, cells := 0, slots := 0, locals := 92 } : Room) [.ref (q 0), .int (nI g), .int (nI t), .int (nI k)] (moW cI q z hi tx pa ke mr hs wr) (moW cI q z hi tx pa ke mr hs wr) (some (.int (lgM z g t k 600))) 0 0 := by
  refine z_enter (by decide) (Nat.le_of_ble_eq_true rfl) ?_
  intro p e s m below meth c A S hr hlocks hnm hN hA hK hP hD hS ls hl
  obtain ⟨hx, hb, hml, hown, hts⟩ := id S
  have hl : lv_has ls 5 [(0, .ref (q 0)), (1, .int (nI g)), (2, .int (nI t)), (3, .int (nI k))] := hl
  have hP : va_P D vwCl (moW cI q z hi tx pa ke mr hs wr) s.heap := hP
  have hD : va_D A (moW cI q z hi tx pa ke mr hs wr) := hD
  refine lv_sipush (v := 600) hx hb dX6_longestNow_0 (by decide) ?_
  refine lv_istore (lv' := [(4, .int 600), (0, .ref (q 0)), (1, .int (nI g)), (2, .int (nI t)), (3, .int (nI k))]) hx hb dX6_longestNow_3 hl (by decide) rfl (fun ls hl => ?_)
  have K5 : ∀ (n5 i : Nat), i + n5 = 600 → lgM z g t k 600 = lgM z g t k (600 - i) → ∀ (H : Heap) (locs : List Loc), va_P D vwCl (moW cI q z hi tx pa ke mr hs wr) H → va_D A (moW cI q z hi tx pa ke mr hs wr) → va_S A s.heap H locs → ∀ ls : Array Slot, lv_has ls 5 [(0, .ref (q 0)), (1, .int (nI g)), (2, .int (nI t)), (3, .int (nI k)), (4, .int (nI (600 - i)))] → W p l e ({ frames := 4, cells := 0, slots := 0, locals := 92 } : Room) s m ([.ref (q 0), .int (nI g), .int (nI t), .int (nI k)] : List Value).toArray below meth c H locs 0 0 (MQ below (zQ D (zT cI cC cM cB cJ) (moW cI q z hi tx pa ke mr hs wr) (some (.int (lgM z g t k 600))) A) ([.ref (q 0), .int (nI g), .int (nI t), .int (nI k)] : List Value).toArray s 0 0 A) (F0 m 5 ls []) := by
    intro n5
    induction n5 with
    | zero =>
      intro i h_i hinv5 H locs hP hD hS ls hl
      have ei : 600 = i := by omega
      subst ei
      refine lv_iload hx hb dX6_longestNow_5 (lv_at hl 4 rfl) ?_
      refine lv_if_le (tgt := 31) hx hb dX6_longestNow_7 (by decide) (fun c1 => ?_) (fun c1 => absurd (z_le (show ¬ (0 : Int32) < nI (600 - 600) by decide)) c1)
      have c1 := z_nlt c1
      refine lv_iconst (v := (-1)) hx hb dX6_longestNow_31 (by decide) ?_
      exact z_iret hx hb hr hlocks hP hD hK hS (rfl) (congrArg (fun b_ => some (Value.int b_)) (((hinv5).trans (show lgM z g t k (600 - 600) = -1 from rfl)).symm)) dX6_longestNow_32
    | succ n5 ih5 =>
      intro i h_i hinv5 H locs hP hD hS ls hl
      have li : i < 600 := by omega
      refine lv_iload hx hb dX6_longestNow_5 (lv_at hl 4 rfl) ?_
      refine lv_if_le (tgt := 31) hx hb dX6_longestNow_7 (by decide) (fun c2 => absurd c2 (z_nle (nI_lt (a := 0) (b := 600 - i) (by omega) (by omega)))) (fun c2 => ?_)
      have c2 := z_lt c2
      refine lv_aload_n hx hb dX6_longestNow_10 rfl (lv_at hl 0 rfl) ?_
      refine lv_iload_n hx hb dX6_longestNow_11 rfl (lv_at hl 1 rfl) ?_
      refine lv_iload_n hx hb dX6_longestNow_12 rfl (lv_at hl 2 rfl) ?_
      refine lv_iload_n hx hb dX6_longestNow_13 rfl (lv_at hl 3 rfl) ?_
      refine lv_iload hx hb dX6_longestNow_14 (lv_at hl 4 rfl) ?_
      refine z_callV1 (rest := []) S (c_X6_canDeal hB g t k (show g < 8 by omega) (show t < 8 by omega) (show k < 5 by omega) (nI (600 - i))) qm_X6_91 v_X6_canDeal ⟨Nat.le_of_ble_eq_true rfl, Nat.le_of_ble_eq_true rfl⟩ rfl rfl hN hK hP hD hS hA (0) (mo_0) rfl rfl hl.1 rfl (Nat.le_of_ble_eq_true rfl) dX6_longestNow_16 ⟨Nat.le_of_ble_eq_true rfl, Nat.le_of_ble_eq_true rfl⟩ (fun H locs hP hD hS => ?_)
      refine lv_if_eq (tgt := 25) hx hb dX6_longestNow_19 (by decide) (fun c3 => ?_) (fun c3 => ?_)
      · have c3 := bI_0 c3
        refine lv_iinc (v := (nI (600 - i)) + (-1)) (lv' := [(4, .int ((nI (600 - i)) + (-1))), (0, .ref (q 0)), (1, .int (nI g)), (2, .int (nI t)), (3, .int (nI k))]) hx hb dX6_longestNow_25 hl (k := 4) rfl (by rfl) (by decide) rfl (fun ls hl => ?_)
        refine lv_goto (tgt := 5) hx hb dX6_longestNow_28 (by decide) ?_
        have hl := (congrArg (fun qv_ => lv_has ls 5 [(4, qv_), (0, .ref (q 0)), (1, .int (nI g)), (2, .int (nI t)), (3, .int (nI k))]) (show Value.int ((nI (600 - i)) + (-1)) = .int (nI (600 - (i + 1))) from congrArg Value.int (dn_s (by omega)))).mp hl
        exact ih5 (i + 1) (by omega) (hinv5.trans (lgM_f (by omega) c3)) _ _ hP hD hS ls (lv_sub hl [1, 2, 3, 4, 0] rfl)
      · have c3 := bI_1 c3
        refine lv_iload hx hb dX6_longestNow_22 (lv_at hl 4 rfl) ?_
        exact z_iret hx hb hr hlocks hP hD hK hS (rfl) (congrArg (fun b_ => some (Value.int b_)) (((hinv5).trans (lgM_t (by omega) c3)).symm)) dX6_longestNow_24
  have hl := (congrArg (fun qv_ => lv_has ls 5 [(4, qv_), (0, .ref (q 0)), (1, .int (nI g)), (2, .int (nI t)), (3, .int (nI k))]) (show Value.int 600 = .int (nI (600 - 0)) from congrArg Value.int (rfl))).mp hl
  exact K5 600 0 (by omega) rfl _ _ hP hD hS ls (lv_sub hl [1, 2, 3, 4, 0] rfl)
set_option maxHeartbeats 4000000 in
set_option maxRecDepth 100000 in
theorem c_X6_cheapestNow {n : Nat} (hn : n ≤ 8) (hz : z 5 = nI n) (hB : hBool z) (t k : Nat) (ht : t < 8) (hk : k < 5) (mn : Int32) : zM l D (zT cI cC cM cB cJ) yX6_cheapestNow cX6_cheapestNow 7 (some .int) ({ frames := 4, cells := 0, slots := 0, locals := 92 } : Room) [.ref (q 0), .int (nI t), .int (nI k), .int mn] (moW cI q z hi tx pa ke mr hs wr) (moW cI q z hi tx pa ke mr hs wr) (some (.int (chM z t k mn n))) 0 0 := by
  refine z_enter (by decide) (Nat.le_of_ble_eq_true rfl) ?_
  intro p e s m below meth c A S hr hlocks hnm hN hA hK hP hD hS ls hl
  obtain ⟨hx, hb, hml, hown, hts⟩ := id S
  have hl : lv_has ls 7 [(0, .ref (q 0)), (1, .int (nI t)), (2, .int (nI k)), (3, .int mn)] := hl
  have hP : va_P D vwCl (moW cI q z hi tx pa ke mr hs wr) s.heap := hP
  have hD : va_D A (moW cI q z hi tx pa ke mr hs wr) := hD
  refine lv_iconst (v := (-1)) hx hb dX6_cheapestNow_0 (by decide) ?_
  refine lv_istore (lv' := [(4, .int (-1)), (0, .ref (q 0)), (1, .int (nI t)), (2, .int (nI k)), (3, .int mn)]) hx hb dX6_cheapestNow_1 hl (by decide) rfl (fun ls hl => ?_)
  refine lv_iconst (v := 0) hx hb dX6_cheapestNow_3 (by decide) ?_
  refine lv_istore (lv' := [(5, .int 0), (4, .int (-1)), (0, .ref (q 0)), (1, .int (nI t)), (2, .int (nI k)), (3, .int mn)]) hx hb dX6_cheapestNow_4 hl (by decide) rfl (fun ls hl => ?_)
  have K6 : ∀ (n6 i : Nat), i + n6 = n → ∀ (H : Heap) (locs : List Loc), va_P D vwCl (moW cI q z hi tx pa ke mr hs wr) H → va_D A (moW cI q z hi tx pa ke mr hs wr) → va_S A s.heap H locs → ∀ ls : Array Slot, lv_has ls 7 [(0, .ref (q 0)), (1, .int (nI t)), (2, .int (nI k)), (3, .int mn), (4, .int (chM z t k mn i)), (5, .int (nI i))] → W p l e ({ frames := 4, cells := 0, slots := 0, locals := 92 } : Room) s m ([.ref (q 0), .int (nI t), .int (nI k), .int mn] : List Value).toArray below meth c H locs 0 0 (MQ below (zQ D (zT cI cC cM cB cJ) (moW cI q z hi tx pa ke mr hs wr) (some (.int (chM z t k mn n))) A) ([.ref (q 0), .int (nI t), .int (nI k), .int mn] : List Value).toArray s 0 0 A) (F0 m 6 ls []) := by
    intro n6
    induction n6 with
    | zero =>
      intro i h_i H locs hP hD hS ls hl
      have ei : n = i := by omega
      subst ei
      refine lv_iload hx hb dX6_cheapestNow_6 (lv_at hl 5 rfl) ?_
      refine lv_aload_n hx hb dX6_cheapestNow_8 rfl (lv_at hl 0 rfl) ?_
      refine va_get (v := .ref (q 1)) hx hb hts inTX6 hown hK hP (0) (mo_0) rfl 0 (by decide) (hts _ qf_X6_7) (fun _ h9 => h9) (rfl) dX6_cheapestNow_9 ?_
      refine lv_iconst (v := 5) hx hb dX6_cheapestNow_12 (by decide) ?_
      refine va_iald hx hb hK hP (1) 0 (mo_1) rfl (vp_in_nI (show 5 < 142 by decide) (by omega)) dX6_cheapestNow_13 ?_
      refine z_top (v2 := .int (nI n)) (congrArg Value.int (((congrArg (zfn z) (z_cl (k := 5) rfl)).trans (zfn_at (by omega))).trans (hz))) ?_
      refine lv_icmp_ge (tgt := 100) hx hb dX6_cheapestNow_14 (by decide) (fun c1 => ?_) (fun c1 => absurd (nI_le (a := n) (b := n) (by omega) (by omega)) c1)
      have c1 := z_nlt c1
      refine lv_iload hx hb dX6_cheapestNow_100 (lv_at hl 4 rfl) ?_
      exact z_iret hx hb hr hlocks hP hD hK hS (rfl) (by first | rfl | (simp only [minP, maxP, c1, not_true_eq_false, not_false_eq_true, and_self, and_true, true_and, and_false, false_and, or_true, true_or, or_false, false_or, if_true, if_false, ite_true, ite_false]; done) | (simp [minP, maxP, c1]; done) | (simp_all [minP, maxP]; done)) dX6_cheapestNow_102
    | succ n6 ih6 =>
      intro i h_i H locs hP hD hS ls hl
      have li : i < n := by omega
      refine lv_iload hx hb dX6_cheapestNow_6 (lv_at hl 5 rfl) ?_
      refine lv_aload_n hx hb dX6_cheapestNow_8 rfl (lv_at hl 0 rfl) ?_
      refine va_get (v := .ref (q 1)) hx hb hts inTX6 hown hK hP (0) (mo_0) rfl 0 (by decide) (hts _ qf_X6_7) (fun _ h9 => h9) (rfl) dX6_cheapestNow_9 ?_
      refine lv_iconst (v := 5) hx hb dX6_cheapestNow_12 (by decide) ?_
      refine va_iald hx hb hK hP (1) 0 (mo_1) rfl (vp_in_nI (show 5 < 142 by decide) (by omega)) dX6_cheapestNow_13 ?_
      refine z_top (v2 := .int (nI n)) (congrArg Value.int (((congrArg (zfn z) (z_cl (k := 5) rfl)).trans (zfn_at (by omega))).trans (hz))) ?_
      refine lv_icmp_ge (tgt := 100) hx hb dX6_cheapestNow_14 (by decide) (fun c2 => absurd c2 (nI_ge (a := i) (b := n) (by omega) (by omega))) (fun c2 => ?_)
      have c2 := z_lt c2
      refine lv_aload_n hx hb dX6_cheapestNow_17 rfl (lv_at hl 0 rfl) ?_
      refine lv_iload hx hb dX6_cheapestNow_18 (lv_at hl 5 rfl) ?_
      refine lv_iload_n hx hb dX6_cheapestNow_20 rfl (lv_at hl 1 rfl) ?_
      refine lv_iload_n hx hb dX6_cheapestNow_21 rfl (lv_at hl 2 rfl) ?_
      refine lv_iload_n hx hb dX6_cheapestNow_22 rfl (lv_at hl 3 rfl) ?_
      refine z_callV1 (rest := []) S (c_X6_canDeal hB i t k (show i < 8 by omega) (show t < 8 by omega) (show k < 5 by omega) mn) qm_X6_91 v_X6_canDeal ⟨Nat.le_of_ble_eq_true rfl, Nat.le_of_ble_eq_true rfl⟩ rfl rfl hN hK hP hD hS hA (0) (mo_0) rfl rfl hl.1 rfl (Nat.le_of_ble_eq_true rfl) dX6_cheapestNow_23 ⟨Nat.le_of_ble_eq_true rfl, Nat.le_of_ble_eq_true rfl⟩ (fun H locs hP hD hS => ?_)
      refine lv_if_eq (tgt := 94) hx hb dX6_cheapestNow_26 (by decide) (fun c3 => ?_) (fun c3 => ?_)
      · have c3 := bI_0 c3
        refine lv_iinc (v := nI (i + 1)) (lv' := [(5, .int (nI (i + 1))), (0, .ref (q 0)), (1, .int (nI t)), (2, .int (nI k)), (3, .int mn), (4, .int (chM z t k mn i))]) hx hb dX6_cheapestNow_94 hl (k := 5) rfl (nI_1 _) (by decide) rfl (fun ls hl => ?_)
        refine lv_goto (tgt := 6) hx hb dX6_cheapestNow_97 (by decide) ?_
        have hl := (congrArg (fun qv_ => lv_has ls 7 [(5, .int (nI (i + 1))), (0, .ref (q 0)), (1, .int (nI t)), (2, .int (nI k)), (3, .int mn), (4, qv_)]) (show Value.int (chM z t k mn i) = .int (chM z t k mn (i + 1)) from congrArg Value.int (by rw [chM, if_neg c3]))).mp hl
        exact ih6 (i + 1) (by omega) _ _ hP hD hS ls (lv_sub hl [1, 2, 3, 4, 5, 0] rfl)
      · have c3 := bI_1 c3
        refine lv_iload hx hb dX6_cheapestNow_29 (lv_at hl 4 rfl) ?_
        refine lv_iconst (v := (-1)) hx hb dX6_cheapestNow_31 (by decide) ?_
        refine lv_icmp_ne (tgt := 39) hx hb dX6_cheapestNow_32 (by decide) (fun c4 => ?_) (fun c4 => ?_)
        · skip
          refine lv_aload_n hx hb dX6_cheapestNow_39 rfl (lv_at hl 0 rfl) ?_
          refine lv_iload hx hb dX6_cheapestNow_40 (lv_at hl 4 rfl) ?_
          obtain ⟨b_, hb_, eb_⟩ := chM_nat (by omega) c4
          refine z_top (v2 := .int (nI b_)) (congrArg Value.int eb_) ?_
          have hl := (congrArg (fun qv_ => lv_has ls 7 [(0, .ref (q 0)), (1, .int (nI t)), (2, .int (nI k)), (3, .int mn), (4, qv_), (5, .int (nI i))]) (show Value.int (chM z t k mn i) = .int (nI b_) from congrArg Value.int (eb_))).mp hl
          refine lv_iload_n hx hb dX6_cheapestNow_42 rfl (lv_at hl 2 rfl) ?_
          refine lv_iload_n hx hb dX6_cheapestNow_43 rfl (lv_at hl 3 rfl) ?_
          refine z_callV1 (rest := []) S (c_X6_valueOf b_ k (show b_ < 8 by omega) (show k < 5 by omega) mn) qm_X6_77 v_X6_valueOf ⟨Nat.le_of_ble_eq_true rfl, Nat.le_of_ble_eq_true rfl⟩ rfl rfl hN hK hP hD hS hA (0) (mo_0) rfl rfl hl.1 rfl (Nat.le_of_ble_eq_true rfl) dX6_cheapestNow_44 ⟨Nat.le_of_ble_eq_true rfl, Nat.le_of_ble_eq_true rfl⟩ (fun H locs hP hD hS => ?_)
          refine lv_aload_n hx hb dX6_cheapestNow_47 rfl (lv_at hl 0 rfl) ?_
          refine lv_iload hx hb dX6_cheapestNow_48 (lv_at hl 5 rfl) ?_
          refine lv_iload_n hx hb dX6_cheapestNow_50 rfl (lv_at hl 2 rfl) ?_
          refine lv_iload_n hx hb dX6_cheapestNow_51 rfl (lv_at hl 3 rfl) ?_
          refine z_callV1 (rest := [.int (valP (z (25 + 16 * b_ + k)) mn)]) S (c_X6_valueOf i k (show i < 8 by omega) (show k < 5 by omega) mn) qm_X6_77 v_X6_valueOf ⟨Nat.le_of_ble_eq_true rfl, Nat.le_of_ble_eq_true rfl⟩ rfl rfl hN hK hP hD hS hA (0) (mo_0) rfl rfl hl.1 rfl (Nat.le_of_ble_eq_true rfl) dX6_cheapestNow_52 ⟨Nat.le_of_ble_eq_true rfl, Nat.le_of_ble_eq_true rfl⟩ (fun H locs hP hD hS => ?_)
          refine lv_isub hx hb dX6_cheapestNow_55  ?_
          refine lv_istore (lv' := [(6, .int ((valP (z (25 + 16 * b_ + k)) mn) - (valP (z (25 + 16 * i + k)) mn))), (0, .ref (q 0)), (1, .int (nI t)), (2, .int (nI k)), (3, .int mn), (4, .int (nI b_)), (5, .int (nI i))]) hx hb dX6_cheapestNow_56 hl (by decide) rfl (fun ls hl => ?_)
          refine lv_iload hx hb dX6_cheapestNow_58 (lv_at hl 0 rfl) ?_
          refine lv_if_gt (tgt := 85) hx hb dX6_cheapestNow_60 (by decide) (fun c5 => ?_) (fun c5 => ?_)
          · skip
            refine lv_iload hx hb dX6_cheapestNow_85 (lv_at hl 6 rfl) ?_
            refine lv_goto (tgt := 92) hx hb dX6_cheapestNow_87 (by decide) ?_
            refine lv_istore (lv' := [(4, .int (nI i)), (6, .int ((valP (z (25 + 16 * b_ + k)) mn) - (valP (z (25 + 16 * i + k)) mn))), (0, .ref (q 0)), (1, .int (nI t)), (2, .int (nI k)), (3, .int mn), (5, .int (nI i))]) hx hb dX6_cheapestNow_92 hl (by decide) rfl (fun ls hl => ?_)
            refine lv_iinc (v := nI (i + 1)) (lv' := [(5, .int (nI (i + 1))), (4, .int (nI i)), (6, .int ((valP (z (25 + 16 * b_ + k)) mn) - (valP (z (25 + 16 * i + k)) mn))), (0, .ref (q 0)), (1, .int (nI t)), (2, .int (nI k)), (3, .int mn)]) hx hb dX6_cheapestNow_94 hl (k := 6) rfl (nI_1 _) (by decide) rfl (fun ls hl => ?_)
            refine lv_goto (tgt := 6) hx hb dX6_cheapestNow_97 (by decide) ?_
            have hl := (congrArg (fun qv_ => lv_has ls 7 [(5, .int (nI (i + 1))), (4, qv_), (6, .int ((valP (z (25 + 16 * b_ + k)) mn) - (valP (z (25 + 16 * i + k)) mn))), (0, .ref (q 0)), (1, .int (nI t)), (2, .int (nI k)), (3, .int mn)]) (show Value.int (nI i) = .int (chM z t k mn (i + 1)) from congrArg Value.int (by rw [chM, if_pos c3, if_neg c4, eb_, nI_cl8 hb_, if_pos c5]))).mp hl
            exact ih6 (i + 1) (by omega) _ _ hP hD hS ls (lv_sub hl [3, 4, 5, 6, 1, 0] rfl)
          · skip
            refine lv_iload hx hb dX6_cheapestNow_63 (lv_at hl 0 rfl) ?_
            refine lv_if_ne (tgt := 90) hx hb dX6_cheapestNow_65 (by decide) (fun c6 => ?_) (fun c6 => ?_)
            · skip
              refine lv_iload hx hb dX6_cheapestNow_90 (lv_at hl 5 rfl) ?_
              refine lv_istore (lv' := [(4, .int (nI b_)), (6, .int ((valP (z (25 + 16 * b_ + k)) mn) - (valP (z (25 + 16 * i + k)) mn))), (0, .ref (q 0)), (1, .int (nI t)), (2, .int (nI k)), (3, .int mn), (5, .int (nI i))]) hx hb dX6_cheapestNow_92 hl (by decide) rfl (fun ls hl => ?_)
              refine lv_iinc (v := nI (i + 1)) (lv' := [(5, .int (nI (i + 1))), (4, .int (nI b_)), (6, .int ((valP (z (25 + 16 * b_ + k)) mn) - (valP (z (25 + 16 * i + k)) mn))), (0, .ref (q 0)), (1, .int (nI t)), (2, .int (nI k)), (3, .int mn)]) hx hb dX6_cheapestNow_94 hl (k := 6) rfl (nI_1 _) (by decide) rfl (fun ls hl => ?_)
              refine lv_goto (tgt := 6) hx hb dX6_cheapestNow_97 (by decide) ?_
              have hl := (congrArg (fun qv_ => lv_has ls 7 [(5, .int (nI (i + 1))), (4, qv_), (6, .int ((valP (z (25 + 16 * b_ + k)) mn) - (valP (z (25 + 16 * i + k)) mn))), (0, .ref (q 0)), (1, .int (nI t)), (2, .int (nI k)), (3, .int mn)]) (show Value.int (nI b_) = .int (chM z t k mn (i + 1)) from congrArg Value.int (by rw [chM, if_pos c3, if_neg c4, eb_, nI_cl8 hb_, if_neg c5, if_neg c6]))).mp hl
              exact ih6 (i + 1) (by omega) _ _ hP hD hS ls (lv_sub hl [3, 4, 5, 6, 1, 0] rfl)
            · skip
              refine lv_aload_n hx hb dX6_cheapestNow_68 rfl (lv_at hl 1 rfl) ?_
              refine lv_iload hx hb dX6_cheapestNow_69 (lv_at hl 6 rfl) ?_
              refine lv_iconst (v := 1) hx hb dX6_cheapestNow_71 (by decide) ?_
              refine z_callV1 (rest := []) S (c_X6_of i 1 (14 + 16 * i + 1) (show i < 8 by omega) (show 1 < 16 by decide) (by omega) (z (14 + 16 * i + 1)) (rfl)) qm_X6_36 v_X6_of ⟨Nat.le_of_ble_eq_true rfl, Nat.le_of_ble_eq_true rfl⟩ rfl rfl hN hK hP hD hS hA (0) (mo_0) rfl rfl hl.1 rfl (Nat.le_of_ble_eq_true rfl) dX6_cheapestNow_72 ⟨Nat.le_of_ble_eq_true rfl, Nat.le_of_ble_eq_true rfl⟩ (fun H locs hP hD hS => ?_)
              refine lv_aload_n hx hb dX6_cheapestNow_75 rfl (lv_at hl 1 rfl) ?_
              refine lv_iload hx hb dX6_cheapestNow_76 (lv_at hl 5 rfl) ?_
              refine lv_iconst (v := 1) hx hb dX6_cheapestNow_78 (by decide) ?_
              refine z_callV1 (rest := [.int (z (14 + 16 * i + 1))]) S (c_X6_of b_ 1 (14 + 16 * b_ + 1) (show b_ < 8 by omega) (show 1 < 16 by decide) (by omega) (z (14 + 16 * b_ + 1)) (rfl)) qm_X6_36 v_X6_of ⟨Nat.le_of_ble_eq_true rfl, Nat.le_of_ble_eq_true rfl⟩ rfl rfl hN hK hP hD hS hA (0) (mo_0) rfl rfl hl.1 rfl (Nat.le_of_ble_eq_true rfl) dX6_cheapestNow_79 ⟨Nat.le_of_ble_eq_true rfl, Nat.le_of_ble_eq_true rfl⟩ (fun H locs hP hD hS => ?_)
              refine lv_icmp_ge (tgt := 90) hx hb dX6_cheapestNow_82 (by decide) (fun c7 => ?_) (fun c7 => ?_)
              · have c7 := z_nlt c7
                refine lv_iload hx hb dX6_cheapestNow_90 (lv_at hl 5 rfl) ?_
                refine lv_istore (lv' := [(4, .int (nI b_)), (6, .int ((valP (z (25 + 16 * b_ + k)) mn) - (valP (z (25 + 16 * i + k)) mn))), (0, .ref (q 0)), (1, .int (nI t)), (2, .int (nI k)), (3, .int mn), (5, .int (nI i))]) hx hb dX6_cheapestNow_92 hl (by decide) rfl (fun ls hl => ?_)
                refine lv_iinc (v := nI (i + 1)) (lv' := [(5, .int (nI (i + 1))), (4, .int (nI b_)), (6, .int ((valP (z (25 + 16 * b_ + k)) mn) - (valP (z (25 + 16 * i + k)) mn))), (0, .ref (q 0)), (1, .int (nI t)), (2, .int (nI k)), (3, .int mn)]) hx hb dX6_cheapestNow_94 hl (k := 6) rfl (nI_1 _) (by decide) rfl (fun ls hl => ?_)
                refine lv_goto (tgt := 6) hx hb dX6_cheapestNow_97 (by decide) ?_
                have hl := (congrArg (fun qv_ => lv_has ls 7 [(5, .int (nI (i + 1))), (4, qv_), (6, .int ((valP (z (25 + 16 * b_ + k)) mn) - (valP (z (25 + 16 * i + k)) mn))), (0, .ref (q 0)), (1, .int (nI t)), (2, .int (nI k)), (3, .int mn)]) (show Value.int (nI b_) = .int (chM z t k mn (i + 1)) from congrArg Value.int (by rw [chM, if_pos c3, if_neg c4, eb_, nI_cl8 hb_, if_neg c5, if_pos c6, if_neg c7]))).mp hl
                exact ih6 (i + 1) (by omega) _ _ hP hD hS ls (lv_sub hl [3, 4, 5, 6, 1, 0] rfl)
              · have c7 := z_lt c7
                refine lv_iload hx hb dX6_cheapestNow_85 (lv_at hl 6 rfl) ?_
                refine lv_goto (tgt := 92) hx hb dX6_cheapestNow_87 (by decide) ?_
                refine lv_istore (lv' := [(4, .int (nI i)), (6, .int ((valP (z (25 + 16 * b_ + k)) mn) - (valP (z (25 + 16 * i + k)) mn))), (0, .ref (q 0)), (1, .int (nI t)), (2, .int (nI k)), (3, .int mn), (5, .int (nI i))]) hx hb dX6_cheapestNow_92 hl (by decide) rfl (fun ls hl => ?_)
                refine lv_iinc (v := nI (i + 1)) (lv' := [(5, .int (nI (i + 1))), (4, .int (nI i)), (6, .int ((valP (z (25 + 16 * b_ + k)) mn) - (valP (z (25 + 16 * i + k)) mn))), (0, .ref (q 0)), (1, .int (nI t)), (2, .int (nI k)), (3, .int mn)]) hx hb dX6_cheapestNow_94 hl (k := 6) rfl (nI_1 _) (by decide) rfl (fun ls hl => ?_)
                refine lv_goto (tgt := 6) hx hb dX6_cheapestNow_97 (by decide) ?_
                have hl := (congrArg (fun qv_ => lv_has ls 7 [(5, .int (nI (i + 1))), (4, qv_), (6, .int ((valP (z (25 + 16 * b_ + k)) mn) - (valP (z (25 + 16 * i + k)) mn))), (0, .ref (q 0)), (1, .int (nI t)), (2, .int (nI k)), (3, .int mn)]) (show Value.int (nI i) = .int (chM z t k mn (i + 1)) from congrArg Value.int (by rw [chM, if_pos c3, if_neg c4, eb_, nI_cl8 hb_, if_neg c5, if_pos c6, if_pos c7]))).mp hl
                exact ih6 (i + 1) (by omega) _ _ hP hD hS ls (lv_sub hl [3, 4, 5, 6, 1, 0] rfl)
        · skip
          refine lv_iconst (v := 1) hx hb dX6_cheapestNow_35 (by decide) ?_
          refine lv_goto (tgt := 56) hx hb dX6_cheapestNow_36 (by decide) ?_
          refine lv_istore (lv' := [(6, .int 1), (0, .ref (q 0)), (1, .int (nI t)), (2, .int (nI k)), (3, .int mn), (4, .int (chM z t k mn i)), (5, .int (nI i))]) hx hb dX6_cheapestNow_56 hl (by decide) rfl (fun ls hl => ?_)
          refine lv_iload hx hb dX6_cheapestNow_58 (lv_at hl 0 rfl) ?_
          refine lv_if_gt (tgt := 85) hx hb dX6_cheapestNow_60 (by decide) (fun c8 => ?_) (fun c8 => absurd (by decide) c8)
          refine lv_iload hx hb dX6_cheapestNow_85 (lv_at hl 6 rfl) ?_
          refine lv_goto (tgt := 92) hx hb dX6_cheapestNow_87 (by decide) ?_
          refine lv_istore (lv' := [(4, .int (nI i)), (6, .int 1), (0, .ref (q 0)), (1, .int (nI t)), (2, .int (nI k)), (3, .int mn), (5, .int (nI i))]) hx hb dX6_cheapestNow_92 hl (by decide) rfl (fun ls hl => ?_)
          refine lv_iinc (v := nI (i + 1)) (lv' := [(5, .int (nI (i + 1))), (4, .int (nI i)), (6, .int 1), (0, .ref (q 0)), (1, .int (nI t)), (2, .int (nI k)), (3, .int mn)]) hx hb dX6_cheapestNow_94 hl (k := 6) rfl (nI_1 _) (by decide) rfl (fun ls hl => ?_)
          refine lv_goto (tgt := 6) hx hb dX6_cheapestNow_97 (by decide) ?_
          have hl := (congrArg (fun qv_ => lv_has ls 7 [(5, .int (nI (i + 1))), (4, qv_), (6, .int 1), (0, .ref (q 0)), (1, .int (nI t)), (2, .int (nI k)), (3, .int mn)]) (show Value.int (nI i) = .int (chM z t k mn (i + 1)) from congrArg Value.int (by rw [chM, if_pos c3, if_pos c4]))).mp hl
          exact ih6 (i + 1) (by omega) _ _ hP hD hS ls (lv_sub hl [3, 4, 5, 6, 1, 0] rfl)
  have hl := (congrArg (fun qv_ => lv_has ls 7 [(5, .int 0), (4, qv_), (0, .ref (q 0)), (1, .int (nI t)), (2, .int (nI k)), (3, .int mn)]) (show Value.int (-1) = .int (chM z t k mn 0) from congrArg Value.int (rfl))).mp hl
  have hl := (congrArg (fun qv_ => lv_has ls 7 [(5, qv_), (4, .int (chM z t k mn 0)), (0, .ref (q 0)), (1, .int (nI t)), (2, .int (nI k)), (3, .int mn)]) (show Value.int 0 = .int (nI 0) from congrArg Value.int (rfl))).mp hl
  exact K6 n 0 (by omega) _ _ hP hD hS ls (lv_sub hl [2, 3, 4, 5, 1, 0] rfl)
set_option maxHeartbeats 4000000 in
set_option maxRecDepth 100000 in
theorem c_X6_decaysThen {n : Nat} (hn : n ≤ 8) (hz : z 5 = nI n) (hB : hBool z) (j : Nat) (hj : j < 8) {wk : Nat} (hwk : wk < 1000) : zM l D (zT cI cC cM cB cJ) yX6_decaysThen cX6_decaysThen 7 (some .int) ({ frames := 3, cells := 0, slots := 0, locals := 71 } : Room) [.ref (q 0), .int (nI j), .int (nI wk)] (moW cI q z hi tx pa ke mr hs wr) (moW cI q z hi tx pa (kpF ke z 142) mr hs wr) (some (.int (dcM z n j wk))) 0 0 := by
  refine z_enter (by decide) (Nat.le_of_ble_eq_true rfl) ?_
  intro p e s m below meth c A S hr hlocks hnm hN hA hK hP hD hS ls hl
  obtain ⟨hx, hb, hml, hown, hts⟩ := id S
  have hl : lv_has ls 7 [(0, .ref (q 0)), (1, .int (nI j)), (2, .int (nI wk))] := hl
  have hP : va_P D vwCl (moW cI q z hi tx pa ke mr hs wr) s.heap := hP
  have hD : va_D A (moW cI q z hi tx pa ke mr hs wr) := hD
  refine lv_iconst (v := 0) hx hb dX6_decaysThen_0 (by decide) ?_
  refine lv_istore_n (lv' := [(3, .int 0), (0, .ref (q 0)), (1, .int (nI j)), (2, .int (nI wk))]) hx hb dX6_decaysThen_1 rfl hl (by decide) rfl (fun ls hl => ?_)
  have K2 : ∀ (n2 i : Nat), i + n2 = 142 → ∀ (H : Heap) (locs : List Loc), va_P D vwCl (moW cI q z hi tx pa (kpF ke z i) mr hs wr) H → va_D A (moW cI q z hi tx pa (kpF ke z i) mr hs wr) → va_S A s.heap H locs → ∀ ls : Array Slot, lv_has ls 7 [(0, .ref (q 0)), (1, .int (nI j)), (2, .int (nI wk)), (3, .int (nI i))] → W p l e ({ frames := 3, cells := 0, slots := 0, locals := 71 } : Room) s m ([.ref (q 0), .int (nI j), .int (nI wk)] : List Value).toArray below meth c H locs 0 0 (MQ below (zQ D (zT cI cC cM cB cJ) (moW cI q z hi tx pa (kpF ke z 142) mr hs wr) (some (.int (dcM z n j wk))) A) ([.ref (q 0), .int (nI j), .int (nI wk)] : List Value).toArray s 0 0 A) (F0 m 2 ls []) := by
    intro n2
    induction n2 with
    | zero =>
      intro i h_i H locs hP hD hS ls hl
      have ei : 142 = i := by omega
      subst ei
      refine lv_iload_n hx hb dX6_decaysThen_2 rfl (lv_at hl 3 rfl) ?_
      refine lv_sipush (v := 142) hx hb dX6_decaysThen_3 (by decide) ?_
      refine lv_icmp_ge (tgt := 27) hx hb dX6_decaysThen_6 (by decide) (fun c1 => ?_) (fun c1 => absurd (nI_le (a := 142) (b := 142) (by omega) (by omega)) c1)
      have c1 := z_nlt c1
      refine lv_aload_n hx hb dX6_decaysThen_27 rfl (lv_at hl 0 rfl) ?_
      refine lv_iload_n hx hb dX6_decaysThen_28 rfl (lv_at hl 1 rfl) ?_
      refine lv_bipush (v := 9) hx hb dX6_decaysThen_29 (by decide) ?_
      refine z_callV1 (rest := []) S (c_X6_of j 9 (14 + 16 * j + 9) (show j < 8 by omega) (show 9 < 16 by decide) (by omega) (z (14 + 16 * j + 9)) (rfl)) qm_X6_36 v_X6_of ⟨Nat.le_of_ble_eq_true rfl, Nat.le_of_ble_eq_true rfl⟩ rfl rfl hN hK hP hD hS hA (0) (mo_0) rfl rfl hl.1 rfl (Nat.le_of_ble_eq_true rfl) dX6_decaysThen_31 ⟨Nat.le_of_ble_eq_true rfl, Nat.le_of_ble_eq_true rfl⟩ (fun H locs hP hD hS => ?_)
      refine lv_istore_n (lv' := [(3, .int (z (14 + 16 * j + 9))), (0, .ref (q 0)), (1, .int (nI j)), (2, .int (nI wk))]) hx hb dX6_decaysThen_34 rfl hl (by decide) rfl (fun ls hl => ?_)
      refine lv_aload_n hx hb dX6_decaysThen_35 rfl (lv_at hl 1 rfl) ?_
      refine lv_iload_n hx hb dX6_decaysThen_36 rfl (lv_at hl 3 rfl) ?_
      refine z_callV1 (rest := []) S (c_X6_passes (n := n) (show n ≤ 8 by omega) (hz) (hB) (wk := wk) (by omega)) qm_X6_102 v_X6_passes ⟨Nat.le_of_ble_eq_true rfl, Nat.le_of_ble_eq_true rfl⟩ rfl rfl hN hK hP hD hS hA (0) (mo_0) rfl rfl hl.1 rfl (Nat.le_of_ble_eq_true rfl) dX6_decaysThen_37 ⟨Nat.le_of_ble_eq_true rfl, Nat.le_of_ble_eq_true rfl⟩ (fun H locs hP hD hS => ?_)
      refine lv_istore (lv' := [(4, .int (wkS z n wk)), (3, .int (z (14 + 16 * j + 9))), (0, .ref (q 0)), (1, .int (nI j)), (2, .int (nI wk))]) hx hb dX6_decaysThen_40 hl (by decide) rfl (fun ls hl => ?_)
      refine lv_aload_n hx hb dX6_decaysThen_42 rfl (lv_at hl 2 rfl) ?_
      refine lv_iload_n hx hb dX6_decaysThen_43 rfl (lv_at hl 3 rfl) ?_
      refine lv_bipush (v := 9) hx hb dX6_decaysThen_44 (by decide) ?_
      refine z_callV1 (rest := []) S (c_X6_of j 9 (14 + 16 * j + 9) (show j < 8 by omega) (show 9 < 16 by decide) (by omega) (wkI z n wk (14 + 16 * j + 9)) (rfl)) qm_X6_36 v_X6_of ⟨Nat.le_of_ble_eq_true rfl, Nat.le_of_ble_eq_true rfl⟩ rfl rfl hN hK hP hD hS hA (0) (mo_0) rfl rfl hl.1 rfl (Nat.le_of_ble_eq_true rfl) dX6_decaysThen_46 ⟨Nat.le_of_ble_eq_true rfl, Nat.le_of_ble_eq_true rfl⟩ (fun H locs hP hD hS => ?_)
      refine lv_iload_n hx hb dX6_decaysThen_49 rfl (lv_at hl 1 rfl) ?_
      refine lv_isub hx hb dX6_decaysThen_50  ?_
      refine lv_istore (lv' := [(5, .int ((wkI z n wk (14 + 16 * j + 9)) - (z (14 + 16 * j + 9)))), (4, .int (wkS z n wk)), (3, .int (z (14 + 16 * j + 9))), (0, .ref (q 0)), (1, .int (nI j)), (2, .int (nI wk))]) hx hb dX6_decaysThen_51 hl (by decide) rfl (fun ls hl => ?_)
      refine lv_iconst (v := 0) hx hb dX6_decaysThen_53 (by decide) ?_
      refine lv_istore (lv' := [(6, .int 0), (5, .int ((wkI z n wk (14 + 16 * j + 9)) - (z (14 + 16 * j + 9)))), (4, .int (wkS z n wk)), (3, .int (z (14 + 16 * j + 9))), (0, .ref (q 0)), (1, .int (nI j)), (2, .int (nI wk))]) hx hb dX6_decaysThen_54 hl (by decide) rfl (fun ls hl => ?_)
      have K56 : ∀ (n56 i : Nat), i + n56 = 142 → ∀ (H : Heap) (locs : List Loc), va_P D vwCl (moW cI q (kpF (wkI z n wk) (kpF ke z 142) i) hi tx pa (kpF ke z 142) mr hs wr) H → va_D A (moW cI q (kpF (wkI z n wk) (kpF ke z 142) i) hi tx pa (kpF ke z 142) mr hs wr) → va_S A s.heap H locs → ∀ ls : Array Slot, lv_has ls 7 [(0, .ref (q 0)), (1, .int (nI j)), (2, .int (nI wk)), (3, .int (z (14 + 16 * j + 9))), (4, .int (wkS z n wk)), (5, .int ((wkI z n wk (14 + 16 * j + 9)) - (z (14 + 16 * j + 9)))), (6, .int (nI i))] → W p l e ({ frames := 3, cells := 0, slots := 0, locals := 71 } : Room) s m ([.ref (q 0), .int (nI j), .int (nI wk)] : List Value).toArray below meth c H locs 0 0 (MQ below (zQ D (zT cI cC cM cB cJ) (moW cI q z hi tx pa (kpF ke z 142) mr hs wr) (some (.int (dcM z n j wk))) A) ([.ref (q 0), .int (nI j), .int (nI wk)] : List Value).toArray s 0 0 A) (F0 m 56 ls []) := by
        intro n56
        induction n56 with
        | zero =>
          intro i h_i H locs hP hD hS ls hl
          have ei : 142 = i := by omega
          subst ei
          refine lv_iload hx hb dX6_decaysThen_56 (lv_at hl 6 rfl) ?_
          refine lv_sipush (v := 142) hx hb dX6_decaysThen_58 (by decide) ?_
          refine lv_icmp_ge (tgt := 84) hx hb dX6_decaysThen_61 (by decide) (fun c2 => ?_) (fun c2 => absurd (nI_le (a := 142) (b := 142) (by omega) (by omega)) c2)
          have c2 := z_nlt c2
          refine lv_iload hx hb dX6_decaysThen_84 (lv_at hl 4 rfl) ?_
          refine lv_iload hx hb dX6_decaysThen_86 (lv_at hl 5 rfl) ?_
          refine lv_icmp_ge (tgt := 95) hx hb dX6_decaysThen_88 (by decide) (fun c3 => ?_) (fun c3 => ?_)
          · have c3 := z_nlt c3
            refine lv_iload hx hb dX6_decaysThen_95 (lv_at hl 5 rfl) ?_
            exact z_iret hx hb hr hlocks hP hD hK hS (moW_congr (fun k hk => (if_pos hk).trans (if_pos hk))) (congrArg (fun b_ => some (Value.int b_)) ((if_neg c3).symm)) dX6_decaysThen_97
          · have c3 := z_lt c3
            refine lv_iconst (v := (-1)) hx hb dX6_decaysThen_91 (by decide) ?_
            refine lv_goto (tgt := 97) hx hb dX6_decaysThen_92 (by decide) ?_
            exact z_iret hx hb hr hlocks hP hD hK hS (moW_congr (fun k hk => (if_pos hk).trans (if_pos hk))) (congrArg (fun b_ => some (Value.int b_)) ((if_pos c3).symm)) dX6_decaysThen_97
        | succ n56 ih56 =>
          intro i h_i H locs hP hD hS ls hl
          have li : i < 142 := by omega
          refine lv_iload hx hb dX6_decaysThen_56 (lv_at hl 6 rfl) ?_
          refine lv_sipush (v := 142) hx hb dX6_decaysThen_58 (by decide) ?_
          refine lv_icmp_ge (tgt := 84) hx hb dX6_decaysThen_61 (by decide) (fun c4 => absurd c4 (nI_ge (a := i) (b := 142) (by omega) (by omega))) (fun c4 => ?_)
          have c4 := z_lt c4
          refine lv_aload_n hx hb dX6_decaysThen_64 rfl (lv_at hl 0 rfl) ?_
          refine va_get (v := .ref (q 1)) hx hb hts inTX6 hown hK hP (0) (mo_0) rfl 0 (by decide) (hts _ qf_X6_7) (fun _ h9 => h9) (rfl) dX6_decaysThen_65 ?_
          refine lv_iload hx hb dX6_decaysThen_68 (lv_at hl 6 rfl) ?_
          refine lv_aload_n hx hb dX6_decaysThen_70 rfl (lv_at hl 0 rfl) ?_
          refine va_get (v := .ref (q 5)) hx hb hts inTX6 hown hK hP (0) (mo_0) rfl 10 (by decide) (hts _ qf_X6_22) (fun _ h9 => h9) (rfl) dX6_decaysThen_71 ?_
          refine lv_iload hx hb dX6_decaysThen_74 (lv_at hl 6 rfl) ?_
          refine va_iald hx hb hK hP (5) 0 (mo_5) rfl (vp_in_nI (show i < 142 by omega) (by omega)) dX6_decaysThen_76 ?_
          refine z_top (v2 := .int ((kpF ke z 142) i)) (congrArg Value.int (congrArg (kpF ke z 142) (z_cl (k := i) rfl))) ?_
          refine z_iast (ws2 := moW cI q (upd (kpF (wkI z n wk) (kpF ke z 142) i) i ((kpF ke z 142) i)) hi tx pa (kpF ke z 142) mr hs wr) hx hb hK hP hD hS (1) 0 (mo_1) rfl (vp_in_nI (show i < 142 by omega) (by omega)) dX6_decaysThen_77 (mo_w1 (z_cl (k := i) rfl) (by omega)) (fun H locs hP hD hS => ?_)
          refine lv_iinc (v := nI (i + 1)) (lv' := [(6, .int (nI (i + 1))), (0, .ref (q 0)), (1, .int (nI j)), (2, .int (nI wk)), (3, .int (z (14 + 16 * j + 9))), (4, .int (wkS z n wk)), (5, .int ((wkI z n wk (14 + 16 * j + 9)) - (z (14 + 16 * j + 9))))]) hx hb dX6_decaysThen_78 hl (k := 6) rfl (nI_1 _) (by decide) rfl (fun ls hl => ?_)
          refine lv_goto (tgt := 56) hx hb dX6_decaysThen_81 (by decide) ?_
          have hP := va_P_eq (w2 := moW cI q (kpF (wkI z n wk) (kpF ke z 142) (i + 1)) hi tx pa (kpF ke z 142) mr hs wr) (congrArg (fun z_ => moW cI q z_ hi tx pa (kpF ke z 142) mr hs wr) (kpF_s)) hP
          have hD := va_D_eq (w2 := moW cI q (kpF (wkI z n wk) (kpF ke z 142) (i + 1)) hi tx pa (kpF ke z 142) mr hs wr) (congrArg (fun z_ => moW cI q z_ hi tx pa (kpF ke z 142) mr hs wr) (kpF_s)) hD
          exact ih56 (i + 1) (by omega) _ _ hP hD hS ls (lv_sub hl [1, 2, 3, 4, 5, 6, 0] rfl)
      have hl := (congrArg (fun qv_ => lv_has ls 7 [(6, qv_), (5, .int ((wkI z n wk (14 + 16 * j + 9)) - (z (14 + 16 * j + 9)))), (4, .int (wkS z n wk)), (3, .int (z (14 + 16 * j + 9))), (0, .ref (q 0)), (1, .int (nI j)), (2, .int (nI wk))]) (show Value.int 0 = .int (nI 0) from congrArg Value.int (rfl))).mp hl
      have hP := va_P_eq (w2 := moW cI q (kpF (wkI z n wk) (kpF ke z 142) 0) hi tx pa (kpF ke z 142) mr hs wr) (congrArg (fun z_ => moW cI q z_ hi tx pa (kpF ke z 142) mr hs wr) (kpF_0.symm)) hP
      have hD := va_D_eq (w2 := moW cI q (kpF (wkI z n wk) (kpF ke z 142) 0) hi tx pa (kpF ke z 142) mr hs wr) (congrArg (fun z_ => moW cI q z_ hi tx pa (kpF ke z 142) mr hs wr) (kpF_0.symm)) hD
      exact K56 142 0 (by omega) _ _ hP hD hS ls (lv_sub hl [4, 5, 6, 3, 2, 1, 0] rfl)
    | succ n2 ih2 =>
      intro i h_i H locs hP hD hS ls hl
      have li : i < 142 := by omega
      refine lv_iload_n hx hb dX6_decaysThen_2 rfl (lv_at hl 3 rfl) ?_
      refine lv_sipush (v := 142) hx hb dX6_decaysThen_3 (by decide) ?_
      refine lv_icmp_ge (tgt := 27) hx hb dX6_decaysThen_6 (by decide) (fun c5 => absurd c5 (nI_ge (a := i) (b := 142) (by omega) (by omega))) (fun c5 => ?_)
      have c5 := z_lt c5
      refine lv_aload_n hx hb dX6_decaysThen_9 rfl (lv_at hl 0 rfl) ?_
      refine va_get (v := .ref (q 5)) hx hb hts inTX6 hown hK hP (0) (mo_0) rfl 10 (by decide) (hts _ qf_X6_22) (fun _ h9 => h9) (rfl) dX6_decaysThen_10 ?_
      refine lv_iload_n hx hb dX6_decaysThen_13 rfl (lv_at hl 3 rfl) ?_
      refine lv_aload_n hx hb dX6_decaysThen_14 rfl (lv_at hl 0 rfl) ?_
      refine va_get (v := .ref (q 1)) hx hb hts inTX6 hown hK hP (0) (mo_0) rfl 0 (by decide) (hts _ qf_X6_7) (fun _ h9 => h9) (rfl) dX6_decaysThen_15 ?_
      refine lv_iload_n hx hb dX6_decaysThen_18 rfl (lv_at hl 3 rfl) ?_
      refine va_iald hx hb hK hP (1) 0 (mo_1) rfl (vp_in_nI (show i < 142 by omega) (by omega)) dX6_decaysThen_19 ?_
      refine z_top (v2 := .int (z i)) (congrArg Value.int (((congrArg (zfn z) (z_cl (k := i) rfl)).trans (zfn_at (by omega))).trans (rfl))) ?_
      refine z_iast (ws2 := moW cI q z hi tx pa (upd (kpF ke z i) i (z i)) mr hs wr) hx hb hK hP hD hS (5) 0 (mo_5) rfl (vp_in_nI (show i < 142 by omega) (by omega)) dX6_decaysThen_20 (mo_wa5 (z_cl (k := i) rfl)) (fun H locs hP hD hS => ?_)
      refine lv_iinc (v := nI (i + 1)) (lv' := [(3, .int (nI (i + 1))), (0, .ref (q 0)), (1, .int (nI j)), (2, .int (nI wk))]) hx hb dX6_decaysThen_21 hl (k := 3) rfl (nI_1 _) (by decide) rfl (fun ls hl => ?_)
      refine lv_goto (tgt := 2) hx hb dX6_decaysThen_24 (by decide) ?_
      have hP := va_P_eq (w2 := moW cI q z hi tx pa (kpF ke z (i + 1)) mr hs wr) (congrArg (fun k_ => moW cI q z hi tx pa k_ mr hs wr) (kpF_s)) hP
      have hD := va_D_eq (w2 := moW cI q z hi tx pa (kpF ke z (i + 1)) mr hs wr) (congrArg (fun k_ => moW cI q z hi tx pa k_ mr hs wr) (kpF_s)) hD
      exact ih2 (i + 1) (by omega) _ _ hP hD hS ls (lv_sub hl [1, 2, 3, 0] rfl)
  have hl := (congrArg (fun qv_ => lv_has ls 7 [(3, qv_), (0, .ref (q 0)), (1, .int (nI j)), (2, .int (nI wk))]) (show Value.int 0 = .int (nI 0) from congrArg Value.int (rfl))).mp hl
  have hP := va_P_eq (w2 := moW cI q z hi tx pa (kpF ke z 0) mr hs wr) (congrArg (fun k_ => moW cI q z hi tx pa k_ mr hs wr) (kpF_0.symm)) hP
  have hD := va_D_eq (w2 := moW cI q z hi tx pa (kpF ke z 0) mr hs wr) (congrArg (fun k_ => moW cI q z hi tx pa k_ mr hs wr) (kpF_0.symm)) hD
  exact K2 142 0 (by omega) _ _ hP hD hS ls (lv_sub hl [1, 2, 3, 0] rfl)
set_option maxHeartbeats 4000000 in
set_option maxRecDepth 100000 in
theorem c_X6_needed_a {n : Nat} (hz2 : z 10 = -1) : zM l D (zT cI cC cM cB cJ) yX6_needed cX6_needed 1 (some .int) ({ frames := 3, cells := 0, slots := 0, locals := 65 } : Room) [.ref (q 0)] (moW cI q z hi tx pa ke mr hs wr) (moW cI q z hi tx pa ke mr hs wr) (some (.int (misP z n))) 0 0 := by
  refine z_enter (by decide) (Nat.le_of_ble_eq_true rfl) ?_
  intro p e s m below meth c A S hr hlocks hnm hN hA hK hP hD hS ls hl
  obtain ⟨hx, hb, hml, hown, hts⟩ := id S
  have hl : lv_has ls 1 [(0, .ref (q 0))] := hl
  have hP : va_P D vwCl (moW cI q z hi tx pa ke mr hs wr) s.heap := hP
  have hD : va_D A (moW cI q z hi tx pa ke mr hs wr) := hD
  refine lv_aload_n hx hb dX6_needed_0 rfl (lv_at hl 0 rfl) ?_
  refine va_get (v := .ref (q 1)) hx hb hts inTX6 hown hK hP (0) (mo_0) rfl 0 (by decide) (hts _ qf_X6_7) (fun _ h9 => h9) (rfl) dX6_needed_1 ?_
  refine lv_bipush (v := 10) hx hb dX6_needed_4 (by decide) ?_
  refine va_iald hx hb hK hP (1) 0 (mo_1) rfl (vp_in_nI (show 10 < 142 by decide) (by omega)) dX6_needed_6 ?_
  refine z_top (v2 := .int (-1)) (congrArg Value.int (((congrArg (zfn z) (z_cl (k := 10) rfl)).trans (zfn_at (by omega))).trans (hz2))) ?_
  refine lv_iconst (v := (-1)) hx hb dX6_needed_7 (by decide) ?_
  refine lv_icmp_ne (tgt := 15) hx hb dX6_needed_8 (by decide) (fun c1 => absurd c1 (by decide)) (fun c1 => ?_)
  refine lv_iconst (v := (-1)) hx hb dX6_needed_11 (by decide) ?_
  refine lv_goto (tgt := 41) hx hb dX6_needed_12 (by decide) ?_
  exact z_iret hx hb hr hlocks hP hD hK hS (rfl) (congrArg (fun b_ => some (Value.int b_)) ((if_pos hz2).symm)) dX6_needed_41
set_option maxHeartbeats 4000000 in
set_option maxRecDepth 100000 in
theorem c_X6_needed_b {n : Nat} (hn : n ≤ 8) (hz : z 5 = nI n) (hB : hBool z) {d : Nat} (hd : d < n) (hz2 : z 10 = nI d) (hd1 : z (14 + 16 * d) = 1) (h12 : oneP (z 12) 8 = cntB z 1 n) : zM l D (zT cI cC cM cB cJ) yX6_needed cX6_needed 1 (some .int) ({ frames := 3, cells := 0, slots := 0, locals := 65 } : Room) [.ref (q 0)] (moW cI q z hi tx pa ke mr hs wr) (moW cI q z hi tx pa ke mr hs wr) (some (.int (misP z n))) 0 0 := by
  refine z_enter (by decide) (Nat.le_of_ble_eq_true rfl) ?_
  intro p e s m below meth c A S hr hlocks hnm hN hA hK hP hD hS ls hl
  obtain ⟨hx, hb, hml, hown, hts⟩ := id S
  have hl : lv_has ls 1 [(0, .ref (q 0))] := hl
  have hP : va_P D vwCl (moW cI q z hi tx pa ke mr hs wr) s.heap := hP
  have hD : va_D A (moW cI q z hi tx pa ke mr hs wr) := hD
  refine lv_aload_n hx hb dX6_needed_0 rfl (lv_at hl 0 rfl) ?_
  refine va_get (v := .ref (q 1)) hx hb hts inTX6 hown hK hP (0) (mo_0) rfl 0 (by decide) (hts _ qf_X6_7) (fun _ h9 => h9) (rfl) dX6_needed_1 ?_
  refine lv_bipush (v := 10) hx hb dX6_needed_4 (by decide) ?_
  refine va_iald hx hb hK hP (1) 0 (mo_1) rfl (vp_in_nI (show 10 < 142 by decide) (by omega)) dX6_needed_6 ?_
  refine z_top (v2 := .int (nI d)) (congrArg Value.int (((congrArg (zfn z) (z_cl (k := 10) rfl)).trans (zfn_at (by omega))).trans (hz2))) ?_
  refine lv_iconst (v := (-1)) hx hb dX6_needed_7 (by decide) ?_
  refine lv_icmp_ne (tgt := 15) hx hb dX6_needed_8 (by decide) (fun c1 => ?_) (fun c1 => absurd c1 (nI_nm1 (show d < 8 by omega)))
  refine lv_aload_n hx hb dX6_needed_15 rfl (lv_at hl 0 rfl) ?_
  refine lv_aload_n hx hb dX6_needed_16 rfl (lv_at hl 0 rfl) ?_
  refine va_get (v := .ref (q 1)) hx hb hts inTX6 hown hK hP (0) (mo_0) rfl 0 (by decide) (hts _ qf_X6_7) (fun _ h9 => h9) (rfl) dX6_needed_17 ?_
  refine lv_bipush (v := 10) hx hb dX6_needed_20 (by decide) ?_
  refine va_iald hx hb hK hP (1) 0 (mo_1) rfl (vp_in_nI (show 10 < 142 by decide) (by omega)) dX6_needed_22 ?_
  refine z_top (v2 := .int (nI d)) (congrArg Value.int (((congrArg (zfn z) (z_cl (k := 10) rfl)).trans (zfn_at (by omega))).trans (hz2))) ?_
  refine z_callV1 (rest := []) S (c_X6_othersOf (n := n) (show n ≤ 8 by omega) (hz) hB d (show d < 8 by omega)) qm_X6_44 v_X6_othersOf ⟨Nat.le_of_ble_eq_true rfl, Nat.le_of_ble_eq_true rfl⟩ rfl rfl hN hK hP hD hS hA (0) (mo_0) rfl rfl hl.1 rfl (Nat.le_of_ble_eq_true rfl) dX6_needed_23 ⟨Nat.le_of_ble_eq_true rfl, Nat.le_of_ble_eq_true rfl⟩ (fun H locs hP hD hS => ?_)
  refine lv_iconst (v := 2) hx hb dX6_needed_26 (by decide) ?_
  refine lv_idiv hx hb dX6_needed_27 (by decide) ?_
  refine lv_iconst (v := 1) hx hb dX6_needed_28 (by decide) ?_
  refine lv_iadd hx hb dX6_needed_29  ?_
  refine lv_aload_n hx hb dX6_needed_30 rfl (lv_at hl 0 rfl) ?_
  refine va_get (v := .ref (q 1)) hx hb hts inTX6 hown hK hP (0) (mo_0) rfl 0 (by decide) (hts _ qf_X6_7) (fun _ h9 => h9) (rfl) dX6_needed_31 ?_
  refine lv_bipush (v := 12) hx hb dX6_needed_34 (by decide) ?_
  refine va_iald hx hb hK hP (1) 0 (mo_1) rfl (vp_in_nI (show 12 < 142 by decide) (by omega)) dX6_needed_36 ?_
  refine z_top (v2 := .int (z 12)) (congrArg Value.int (((congrArg (zfn z) (z_cl (k := 12) rfl)).trans (zfn_at (by omega))).trans (rfl))) ?_
  refine z_callS1 (rest := [.int (((cntT z n - z (14 + 16 * d)) / 2) + 1)]) S (c_X6_ones (z 12)) qm_X6_48 t_X6_ones ⟨Nat.le_of_ble_eq_true rfl, Nat.le_of_ble_eq_true rfl⟩ rfl rfl hN hK hP hD hS hA rfl hl.1 rfl (Nat.le_of_ble_eq_true rfl) dX6_needed_37 ⟨Nat.le_of_ble_eq_true rfl, Nat.le_of_ble_eq_true rfl⟩ (fun H locs hP hD hS => ?_)
  refine lv_isub hx hb dX6_needed_40  ?_
  exact z_iret hx hb hr hlocks hP hD hK hS (rfl) (congrArg (fun b_ => some (Value.int b_)) (by rw [misP, if_neg (by rw [hz2]; exact nI_nm1 (show d < 8 by omega)), hd1, h12])) dX6_needed_41
set_option maxHeartbeats 4000000 in
set_option maxRecDepth 100000 in
theorem c_X6_ripestNow {n : Nat} (hn : n ≤ 8) (hz : z 5 = nI n) (hB : hBool z) (k : Nat) (hk : k < 5) : zM l D (zT cI cC cM cB cJ) yX6_ripestNow cX6_ripestNow 5 (some .int) ({ frames := 2, cells := 0, slots := 0, locals := 43 } : Room) [.ref (q 0), .int (nI k)] (moW cI q z hi tx pa ke mr hs wr) (moW cI q z hi tx pa ke mr hs wr) (some (.int (mpP z k n))) 0 0 := by
  refine z_enter (by decide) (Nat.le_of_ble_eq_true rfl) ?_
  intro p e s m below meth c A S hr hlocks hnm hN hA hK hP hD hS ls hl
  obtain ⟨hx, hb, hml, hown, hts⟩ := id S
  have hl : lv_has ls 5 [(0, .ref (q 0)), (1, .int (nI k))] := hl
  have hP : va_P D vwCl (moW cI q z hi tx pa ke mr hs wr) s.heap := hP
  have hD : va_D A (moW cI q z hi tx pa ke mr hs wr) := hD
  refine lv_iconst (v := (-1)) hx hb dX6_ripestNow_0 (by decide) ?_
  refine lv_istore_n (lv' := [(2, .int (-1)), (0, .ref (q 0)), (1, .int (nI k))]) hx hb dX6_ripestNow_1 rfl hl (by decide) rfl (fun ls hl => ?_)
  refine lv_iconst (v := 0) hx hb dX6_ripestNow_2 (by decide) ?_
  refine lv_istore_n (lv' := [(3, .int 0), (2, .int (-1)), (0, .ref (q 0)), (1, .int (nI k))]) hx hb dX6_ripestNow_3 rfl hl (by decide) rfl (fun ls hl => ?_)
  have K4 : ∀ (n4 i : Nat), i + n4 = n → ∀ (H : Heap) (locs : List Loc), va_P D vwCl (moW cI q z hi tx pa ke mr hs wr) H → va_D A (moW cI q z hi tx pa ke mr hs wr) → va_S A s.heap H locs → ∀ ls : Array Slot, lv_has ls 5 [(0, .ref (q 0)), (1, .int (nI k)), (2, .int (mpP z k i)), (3, .int (nI i))] → W p l e ({ frames := 2, cells := 0, slots := 0, locals := 43 } : Room) s m ([.ref (q 0), .int (nI k)] : List Value).toArray below meth c H locs 0 0 (MQ below (zQ D (zT cI cC cM cB cJ) (moW cI q z hi tx pa ke mr hs wr) (some (.int (mpP z k n))) A) ([.ref (q 0), .int (nI k)] : List Value).toArray s 0 0 A) (F0 m 4 ls []) := by
    intro n4
    induction n4 with
    | zero =>
      intro i h_i H locs hP hD hS ls hl
      have ei : n = i := by omega
      subst ei
      refine lv_iload_n hx hb dX6_ripestNow_4 rfl (lv_at hl 3 rfl) ?_
      refine lv_aload_n hx hb dX6_ripestNow_5 rfl (lv_at hl 0 rfl) ?_
      refine va_get (v := .ref (q 1)) hx hb hts inTX6 hown hK hP (0) (mo_0) rfl 0 (by decide) (hts _ qf_X6_7) (fun _ h9 => h9) (rfl) dX6_ripestNow_6 ?_
      refine lv_iconst (v := 5) hx hb dX6_ripestNow_9 (by decide) ?_
      refine va_iald hx hb hK hP (1) 0 (mo_1) rfl (vp_in_nI (show 5 < 142 by decide) (by omega)) dX6_ripestNow_10 ?_
      refine z_top (v2 := .int (nI n)) (congrArg Value.int (((congrArg (zfn z) (z_cl (k := 5) rfl)).trans (zfn_at (by omega))).trans (hz))) ?_
      refine lv_icmp_ge (tgt := 72) hx hb dX6_ripestNow_11 (by decide) (fun c1 => ?_) (fun c1 => absurd (nI_le (a := n) (b := n) (by omega) (by omega)) c1)
      have c1 := z_nlt c1
      refine lv_iload_n hx hb dX6_ripestNow_72 rfl (lv_at hl 2 rfl) ?_
      exact z_iret hx hb hr hlocks hP hD hK hS (rfl) (by first | rfl | (simp only [minP, maxP, c1, not_true_eq_false, not_false_eq_true, and_self, and_true, true_and, and_false, false_and, or_true, true_or, or_false, false_or, if_true, if_false, ite_true, ite_false]; done) | (simp [minP, maxP, c1]; done) | (simp_all [minP, maxP]; done)) dX6_ripestNow_73
    | succ n4 ih4 =>
      intro i h_i H locs hP hD hS ls hl
      have li : i < n := by omega
      refine lv_iload_n hx hb dX6_ripestNow_4 rfl (lv_at hl 3 rfl) ?_
      refine lv_aload_n hx hb dX6_ripestNow_5 rfl (lv_at hl 0 rfl) ?_
      refine va_get (v := .ref (q 1)) hx hb hts inTX6 hown hK hP (0) (mo_0) rfl 0 (by decide) (hts _ qf_X6_7) (fun _ h9 => h9) (rfl) dX6_ripestNow_6 ?_
      refine lv_iconst (v := 5) hx hb dX6_ripestNow_9 (by decide) ?_
      refine va_iald hx hb hK hP (1) 0 (mo_1) rfl (vp_in_nI (show 5 < 142 by decide) (by omega)) dX6_ripestNow_10 ?_
      refine z_top (v2 := .int (nI n)) (congrArg Value.int (((congrArg (zfn z) (z_cl (k := 5) rfl)).trans (zfn_at (by omega))).trans (hz))) ?_
      refine lv_icmp_ge (tgt := 72) hx hb dX6_ripestNow_11 (by decide) (fun c2 => absurd c2 (nI_ge (a := i) (b := n) (by omega) (by omega))) (fun c2 => ?_)
      have c2 := z_lt c2
      refine lv_aload_n hx hb dX6_ripestNow_14 rfl (lv_at hl 0 rfl) ?_
      refine lv_iload_n hx hb dX6_ripestNow_15 rfl (lv_at hl 3 rfl) ?_
      refine z_callV1 (rest := []) S (c_X6_isThere i (show i < 8 by omega) (hB i (show i < 8 by omega)).1) qm_X6_68 v_X6_isThere ⟨Nat.le_of_ble_eq_true rfl, Nat.le_of_ble_eq_true rfl⟩ rfl rfl hN hK hP hD hS hA (0) (mo_0) rfl rfl hl.1 rfl (Nat.le_of_ble_eq_true rfl) dX6_ripestNow_16 ⟨Nat.le_of_ble_eq_true rfl, Nat.le_of_ble_eq_true rfl⟩ (fun H locs hP hD hS => ?_)
      refine lv_if_eq (tgt := 52) hx hb dX6_ripestNow_19 (by decide) (fun c3 => ?_) (fun c3 => ?_)
      · have c3 := bI_0n c3
        refine lv_iconst (v := 0) hx hb dX6_ripestNow_52 (by decide) ?_
        refine lv_istore (lv' := [(4, .int 0), (0, .ref (q 0)), (1, .int (nI k)), (2, .int (mpP z k i)), (3, .int (nI i))]) hx hb dX6_ripestNow_53 hl (by decide) rfl (fun ls hl => ?_)
        refine lv_iload hx hb dX6_ripestNow_55 (lv_at hl 0 rfl) ?_
        refine lv_if_eq (tgt := 64) hx hb dX6_ripestNow_57 (by decide) (fun c4 => ?_) (fun c4 => absurd (by decide) c4)
        refine lv_iload_n hx hb dX6_ripestNow_64 rfl (lv_at hl 3 rfl) ?_
        refine lv_istore_n (lv' := [(2, .int (mpP z k i)), (4, .int 0), (0, .ref (q 0)), (1, .int (nI k)), (3, .int (nI i))]) hx hb dX6_ripestNow_65 rfl hl (by decide) rfl (fun ls hl => ?_)
        refine lv_iinc (v := nI (i + 1)) (lv' := [(3, .int (nI (i + 1))), (2, .int (mpP z k i)), (4, .int 0), (0, .ref (q 0)), (1, .int (nI k))]) hx hb dX6_ripestNow_66 hl (k := 4) rfl (nI_1 _) (by decide) rfl (fun ls hl => ?_)
        refine lv_goto (tgt := 4) hx hb dX6_ripestNow_69 (by decide) ?_
        have hl := (congrArg (fun qv_ => lv_has ls 5 [(3, .int (nI (i + 1))), (2, qv_), (4, .int 0), (0, .ref (q 0)), (1, .int (nI k))]) (show Value.int (mpP z k i) = .int (mpP z k (i + 1)) from congrArg Value.int (by first | rfl | (simp only [mpP, c2, c3, c4, not_true_eq_false, not_false_eq_true, and_self, and_true, true_and, and_false, false_and, or_true, true_or, or_false, false_or, if_true, if_false, ite_true, ite_false]; done) | (simp [mpP, c2, c3, c4]; done)))).mp hl
        exact ih4 (i + 1) (by omega) _ _ hP hD hS ls (lv_sub hl [3, 4, 1, 0] rfl)
      · have c3 := bI_1 c3
        refine lv_iload_n hx hb dX6_ripestNow_22 rfl (lv_at hl 2 rfl) ?_
        refine lv_iconst (v := (-1)) hx hb dX6_ripestNow_23 (by decide) ?_
        refine lv_icmp_eq (tgt := 48) hx hb dX6_ripestNow_24 (by decide) (fun c5 => ?_) (fun c5 => ?_)
        · skip
          refine lv_iconst (v := 1) hx hb dX6_ripestNow_48 (by decide) ?_
          refine lv_goto (tgt := 53) hx hb dX6_ripestNow_49 (by decide) ?_
          refine lv_istore (lv' := [(4, .int 1), (0, .ref (q 0)), (1, .int (nI k)), (2, .int (mpP z k i)), (3, .int (nI i))]) hx hb dX6_ripestNow_53 hl (by decide) rfl (fun ls hl => ?_)
          refine lv_iload hx hb dX6_ripestNow_55 (lv_at hl 0 rfl) ?_
          refine lv_if_eq (tgt := 64) hx hb dX6_ripestNow_57 (by decide) (fun c6 => absurd c6 (by decide)) (fun c6 => ?_)
          refine lv_iload_n hx hb dX6_ripestNow_60 rfl (lv_at hl 4 rfl) ?_
          refine lv_goto (tgt := 65) hx hb dX6_ripestNow_61 (by decide) ?_
          refine lv_istore_n (lv' := [(2, .int (nI i)), (4, .int 1), (0, .ref (q 0)), (1, .int (nI k)), (3, .int (nI i))]) hx hb dX6_ripestNow_65 rfl hl (by decide) rfl (fun ls hl => ?_)
          refine lv_iinc (v := nI (i + 1)) (lv' := [(3, .int (nI (i + 1))), (2, .int (nI i)), (4, .int 1), (0, .ref (q 0)), (1, .int (nI k))]) hx hb dX6_ripestNow_66 hl (k := 4) rfl (nI_1 _) (by decide) rfl (fun ls hl => ?_)
          refine lv_goto (tgt := 4) hx hb dX6_ripestNow_69 (by decide) ?_
          have hl := (congrArg (fun qv_ => lv_has ls 5 [(3, .int (nI (i + 1))), (2, qv_), (4, .int 1), (0, .ref (q 0)), (1, .int (nI k))]) (show Value.int (nI i) = .int (mpP z k (i + 1)) from congrArg Value.int (by first | rfl | (simp only [mpP, c2, c3, c5, c6, not_true_eq_false, not_false_eq_true, and_self, and_true, true_and, and_false, false_and, or_true, true_or, or_false, false_or, if_true, if_false, ite_true, ite_false]; done) | (simp [mpP, c2, c3, c5, c6]; done)))).mp hl
          exact ih4 (i + 1) (by omega) _ _ hP hD hS ls (lv_sub hl [3, 4, 1, 0] rfl)
        · skip
          refine lv_aload_n hx hb dX6_ripestNow_27 rfl (lv_at hl 0 rfl) ?_
          refine lv_iload_n hx hb dX6_ripestNow_28 rfl (lv_at hl 3 rfl) ?_
          refine lv_bipush (v := 11) hx hb dX6_ripestNow_29 (by decide) ?_
          refine lv_iload_n hx hb dX6_ripestNow_31 rfl (lv_at hl 1 rfl) ?_
          refine lv_iadd hx hb dX6_ripestNow_32  ?_
          refine z_top (v2 := .int (nI (11 + k))) (congrArg Value.int (nI_add 11 k)) ?_
          refine z_callV1 (rest := []) S (c_X6_of i (11 + k) (25 + 16 * i + k) (show i < 8 by omega) (show 11 + k < 16 by omega) (by omega) (z (25 + 16 * i + k)) (rfl)) qm_X6_36 v_X6_of ⟨Nat.le_of_ble_eq_true rfl, Nat.le_of_ble_eq_true rfl⟩ rfl rfl hN hK hP hD hS hA (0) (mo_0) rfl rfl hl.1 rfl (Nat.le_of_ble_eq_true rfl) dX6_ripestNow_33 ⟨Nat.le_of_ble_eq_true rfl, Nat.le_of_ble_eq_true rfl⟩ (fun H locs hP hD hS => ?_)
          refine lv_aload_n hx hb dX6_ripestNow_36 rfl (lv_at hl 0 rfl) ?_
          refine lv_iload_n hx hb dX6_ripestNow_37 rfl (lv_at hl 2 rfl) ?_
          obtain ⟨b_, hb_, eb_⟩ := mpP_nat (by omega) c5
          refine z_top (v2 := .int (nI b_)) (congrArg Value.int eb_) ?_
          refine lv_bipush (v := 11) hx hb dX6_ripestNow_38 (by decide) ?_
          refine lv_iload_n hx hb dX6_ripestNow_40 rfl (lv_at hl 1 rfl) ?_
          refine lv_iadd hx hb dX6_ripestNow_41  ?_
          refine z_top (v2 := .int (nI (11 + k))) (congrArg Value.int (nI_add 11 k)) ?_
          refine z_callV1 (rest := [.int (z (25 + 16 * i + k))]) S (c_X6_of b_ (11 + k) (25 + 16 * b_ + k) (show b_ < 8 by omega) (show 11 + k < 16 by omega) (by omega) (z (25 + 16 * b_ + k)) (rfl)) qm_X6_36 v_X6_of ⟨Nat.le_of_ble_eq_true rfl, Nat.le_of_ble_eq_true rfl⟩ rfl rfl hN hK hP hD hS hA (0) (mo_0) rfl rfl hl.1 rfl (Nat.le_of_ble_eq_true rfl) dX6_ripestNow_42 ⟨Nat.le_of_ble_eq_true rfl, Nat.le_of_ble_eq_true rfl⟩ (fun H locs hP hD hS => ?_)
          refine lv_icmp_le (tgt := 52) hx hb dX6_ripestNow_45 (by decide) (fun c7 => ?_) (fun c7 => ?_)
          · have c7 := z_nlt c7
            refine lv_iconst (v := 0) hx hb dX6_ripestNow_52 (by decide) ?_
            refine lv_istore (lv' := [(4, .int 0), (0, .ref (q 0)), (1, .int (nI k)), (2, .int (mpP z k i)), (3, .int (nI i))]) hx hb dX6_ripestNow_53 hl (by decide) rfl (fun ls hl => ?_)
            refine lv_iload hx hb dX6_ripestNow_55 (lv_at hl 0 rfl) ?_
            refine lv_if_eq (tgt := 64) hx hb dX6_ripestNow_57 (by decide) (fun c8 => ?_) (fun c8 => absurd (by decide) c8)
            refine lv_iload_n hx hb dX6_ripestNow_64 rfl (lv_at hl 3 rfl) ?_
            refine lv_istore_n (lv' := [(2, .int (mpP z k i)), (4, .int 0), (0, .ref (q 0)), (1, .int (nI k)), (3, .int (nI i))]) hx hb dX6_ripestNow_65 rfl hl (by decide) rfl (fun ls hl => ?_)
            refine lv_iinc (v := nI (i + 1)) (lv' := [(3, .int (nI (i + 1))), (2, .int (mpP z k i)), (4, .int 0), (0, .ref (q 0)), (1, .int (nI k))]) hx hb dX6_ripestNow_66 hl (k := 4) rfl (nI_1 _) (by decide) rfl (fun ls hl => ?_)
            refine lv_goto (tgt := 4) hx hb dX6_ripestNow_69 (by decide) ?_
            have hl := (congrArg (fun qv_ => lv_has ls 5 [(3, .int (nI (i + 1))), (2, qv_), (4, .int 0), (0, .ref (q 0)), (1, .int (nI k))]) (show Value.int (mpP z k i) = .int (mpP z k (i + 1)) from congrArg Value.int (by first | rfl | (simp only [mpP, c2, c3, c5, eb_, nI_cl8 hb_, nI_nm1 hb_, c7, c8, not_true_eq_false, not_false_eq_true, and_self, and_true, true_and, and_false, false_and, or_true, true_or, or_false, false_or, if_true, if_false, ite_true, ite_false]; done) | (simp [mpP, c2, c3, c5, eb_, nI_cl8 hb_, nI_nm1 hb_, c7, c8]; done)))).mp hl
            exact ih4 (i + 1) (by omega) _ _ hP hD hS ls (lv_sub hl [3, 4, 1, 0] rfl)
          · have c7 := z_lt c7
            refine lv_iconst (v := 1) hx hb dX6_ripestNow_48 (by decide) ?_
            refine lv_goto (tgt := 53) hx hb dX6_ripestNow_49 (by decide) ?_
            refine lv_istore (lv' := [(4, .int 1), (0, .ref (q 0)), (1, .int (nI k)), (2, .int (mpP z k i)), (3, .int (nI i))]) hx hb dX6_ripestNow_53 hl (by decide) rfl (fun ls hl => ?_)
            refine lv_iload hx hb dX6_ripestNow_55 (lv_at hl 0 rfl) ?_
            refine lv_if_eq (tgt := 64) hx hb dX6_ripestNow_57 (by decide) (fun c9 => absurd c9 (by decide)) (fun c9 => ?_)
            refine lv_iload_n hx hb dX6_ripestNow_60 rfl (lv_at hl 4 rfl) ?_
            refine lv_goto (tgt := 65) hx hb dX6_ripestNow_61 (by decide) ?_
            refine lv_istore_n (lv' := [(2, .int (nI i)), (4, .int 1), (0, .ref (q 0)), (1, .int (nI k)), (3, .int (nI i))]) hx hb dX6_ripestNow_65 rfl hl (by decide) rfl (fun ls hl => ?_)
            refine lv_iinc (v := nI (i + 1)) (lv' := [(3, .int (nI (i + 1))), (2, .int (nI i)), (4, .int 1), (0, .ref (q 0)), (1, .int (nI k))]) hx hb dX6_ripestNow_66 hl (k := 4) rfl (nI_1 _) (by decide) rfl (fun ls hl => ?_)
            refine lv_goto (tgt := 4) hx hb dX6_ripestNow_69 (by decide) ?_
            have hl := (congrArg (fun qv_ => lv_has ls 5 [(3, .int (nI (i + 1))), (2, qv_), (4, .int 1), (0, .ref (q 0)), (1, .int (nI k))]) (show Value.int (nI i) = .int (mpP z k (i + 1)) from congrArg Value.int (by first | rfl | (simp only [mpP, c2, c3, c5, eb_, nI_cl8 hb_, nI_nm1 hb_, c7, c9, not_true_eq_false, not_false_eq_true, and_self, and_true, true_and, and_false, false_and, or_true, true_or, or_false, false_or, if_true, if_false, ite_true, ite_false]; done) | (simp [mpP, c2, c3, c5, eb_, nI_cl8 hb_, nI_nm1 hb_, c7, c9]; done)))).mp hl
            exact ih4 (i + 1) (by omega) _ _ hP hD hS ls (lv_sub hl [3, 4, 1, 0] rfl)
  have hl := (congrArg (fun qv_ => lv_has ls 5 [(3, .int 0), (2, qv_), (0, .ref (q 0)), (1, .int (nI k))]) (show Value.int (-1) = .int (mpP z k 0) from congrArg Value.int (rfl))).mp hl
  have hl := (congrArg (fun qv_ => lv_has ls 5 [(3, qv_), (2, .int (mpP z k 0)), (0, .ref (q 0)), (1, .int (nI k))]) (show Value.int 0 = .int (nI 0) from congrArg Value.int (rfl))).mp hl
  exact K4 n 0 (by omega) _ _ hP hD hS ls (lv_sub hl [2, 3, 1, 0] rfl)
set_option maxHeartbeats 4000000 in
set_option maxRecDepth 100000 in
theorem c_X6_meanWorth {n : Nat} (hn : n ≤ 8) (hz : z 5 = nI n) : zM l D (zT cI cC cM cB cJ) yX6_meanWorth cX6_meanWorth 2 (some .double) ({ frames := 2, cells := 0, slots := 0, locals := 45 } : Room) [.ref (q 0)] (moW cI q z hi tx pa ke mr hs wr) (moW cI q z hi tx pa ke mr hs wr) (some (.double (vomP z n))) 0 0 := by
  refine z_enter (by decide) (Nat.le_of_ble_eq_true rfl) ?_
  intro p e s m below meth c A S hr hlocks hnm hN hA hK hP hD hS ls hl
  obtain ⟨hx, hb, hml, hown, hts⟩ := id S
  have hl : lv_has ls 2 [(0, .ref (q 0))] := hl
  have hP : va_P D vwCl (moW cI q z hi tx pa ke mr hs wr) s.heap := hP
  have hD : va_D A (moW cI q z hi tx pa ke mr hs wr) := hD
  refine lv_aload_n hx hb dX6_meanWorth_0 rfl (lv_at hl 0 rfl) ?_
  refine lv_iconst (v := 5) hx hb dX6_meanWorth_1 (by decide) ?_
  refine z_callV1 (rest := []) S (c_X6_sumOf (n := n) (show n ≤ 8 by omega) (hz) 5 (show 5 < 16 by decide)) qm_X6_157 v_X6_sumOf ⟨Nat.le_of_ble_eq_true rfl, Nat.le_of_ble_eq_true rfl⟩ rfl rfl hN hK hP hD hS hA (0) (mo_0) rfl rfl hl.1 rfl (Nat.le_of_ble_eq_true rfl) dX6_meanWorth_2 ⟨Nat.le_of_ble_eq_true rfl, Nat.le_of_ble_eq_true rfl⟩ (fun H locs hP hD hS => ?_)
  refine lv_istore_n (lv' := [(1, .int (sumF z 5 n)), (0, .ref (q 0))]) hx hb dX6_meanWorth_5 rfl hl (by decide) rfl (fun ls hl => ?_)
  refine lv_iload_n hx hb dX6_meanWorth_6 rfl (lv_at hl 0 rfl) ?_
  refine lv_if_ne (tgt := 14) hx hb dX6_meanWorth_7 (by decide) (fun c1 => ?_) (fun c1 => ?_)
  · skip
    refine lv_aload_n hx hb dX6_meanWorth_14 rfl (lv_at hl 1 rfl) ?_
    refine lv_bipush (v := 7) hx hb dX6_meanWorth_15 (by decide) ?_
    refine z_callV1 (rest := []) S (c_X6_sumOf (n := n) (show n ≤ 8 by omega) (hz) 7 (show 7 < 16 by decide)) qm_X6_157 v_X6_sumOf ⟨Nat.le_of_ble_eq_true rfl, Nat.le_of_ble_eq_true rfl⟩ rfl rfl hN hK hP hD hS hA (0) (mo_0) rfl rfl hl.1 rfl (Nat.le_of_ble_eq_true rfl) dX6_meanWorth_17 ⟨Nat.le_of_ble_eq_true rfl, Nat.le_of_ble_eq_true rfl⟩ (fun H locs hP hD hS => ?_)
    refine lv_i2d hx hb dX6_meanWorth_20 ?_
    refine lv_iload_n hx hb dX6_meanWorth_21 rfl (lv_at hl 0 rfl) ?_
    refine lv_i2d hx hb dX6_meanWorth_22 ?_
    refine lv_ddiv hx hb dX6_meanWorth_23 (fp_quot (by assumption)) ?_
    exact z_dret hx hb hr hlocks hP hD hK hS (rfl) (by first | rfl | (simp only [vomP, minP, maxP, c1, not_true_eq_false, not_false_eq_true, and_self, and_true, true_and, and_false, false_and, or_true, true_or, or_false, false_or, if_true, if_false, ite_true, ite_false]; done) | (simp [vomP, minP, maxP, c1]; done) | (simp_all [vomP, minP, maxP]; done)) dX6_meanWorth_24
  · skip
    refine lv_dconst1 hx hb dX6_meanWorth_10 ?_
    refine lv_goto (tgt := 24) hx hb dX6_meanWorth_11 (by decide) ?_
    exact z_dret hx hb hr hlocks hP hD hK hS (rfl) (by first | rfl | (simp only [vomP, minP, maxP, c1, not_true_eq_false, not_false_eq_true, and_self, and_true, true_and, and_false, false_and, or_true, true_or, or_false, false_or, if_true, if_false, ite_true, ite_false]; done) | (simp [vomP, minP, maxP, c1]; done) | (simp_all [vomP, minP, maxP]; done)) dX6_meanWorth_24
set_option maxHeartbeats 4000000 in
set_option maxRecDepth 100000 in
theorem c_X6_takesDigit {rd : Nat} (h3 : mr 3 = nI rd) (hr : rd < 10) (x : Int32) : zM l D (zT cI cC cM cB cJ) yX6_takesDigit cX6_takesDigit 4 (some .boolean) ({ frames := 2, cells := 0, slots := 0, locals := 42 } : Room) [.ref (q 0), .int x] (moW cI q z hi tx pa ke mr hs wr) (moW cI q z hi tx (upd pa (4 * rd + 3) (nbM mr x)) ke (upd mr 4 (nbM mr x)) hs wr) (some (.int (bI (isM mr x)))) 0 0 := by
  refine z_enter (by decide) (Nat.le_of_ble_eq_true rfl) ?_
  intro p e s m below meth c A S hr hlocks hnm hN hA hK hP hD hS ls hl
  obtain ⟨hx, hb, hml, hown, hts⟩ := id S
  have hl : lv_has ls 4 [(0, .ref (q 0)), (1, .int x)] := hl
  have hP : va_P D vwCl (moW cI q z hi tx pa ke mr hs wr) s.heap := hP
  have hD : va_D A (moW cI q z hi tx pa ke mr hs wr) := hD
  refine lv_aload_n hx hb dX6_takesDigit_0 rfl (lv_at hl 0 rfl) ?_
  refine va_get (v := .int (mr 4)) hx hb hts inTX6 hown hK hP (0) (mo_0) rfl 8 (by decide) (hts _ qf_X6_123) (fun _ h9 => h9) (rfl) dX6_takesDigit_1 ?_
  refine lv_iconst (v := (-1)) hx hb dX6_takesDigit_4 (by decide) ?_
  refine lv_icmp_ne (tgt := 12) hx hb dX6_takesDigit_5 (by decide) (fun c1 => ?_) (fun c1 => ?_)
  · skip
    refine lv_bipush (v := 10) hx hb dX6_takesDigit_12 (by decide) ?_
    refine lv_aload_n hx hb dX6_takesDigit_14 rfl (lv_at hl 0 rfl) ?_
    refine va_get (v := .int (mr 4)) hx hb hts inTX6 hown hK hP (0) (mo_0) rfl 8 (by decide) (hts _ qf_X6_123) (fun _ h9 => h9) (rfl) dX6_takesDigit_15 ?_
    refine lv_imul hx hb dX6_takesDigit_18  ?_
    refine lv_iload_n hx hb dX6_takesDigit_19 rfl (lv_at hl 1 rfl) ?_
    refine lv_iadd hx hb dX6_takesDigit_20  ?_
    refine z_top (v2 := .int (vM mr x)) (congrArg Value.int (vM_b c1)) ?_
    refine lv_istore_n (lv' := [(2, .int (vM mr x)), (0, .ref (q 0)), (1, .int x)]) hx hb dX6_takesDigit_21 rfl hl (by decide) rfl (fun ls hl => ?_)
    refine lv_iload_n hx hb dX6_takesDigit_22 rfl (lv_at hl 2 rfl) ?_
    refine lv_iconst (v := 0) hx hb dX6_takesDigit_23 (by decide) ?_
    refine lv_bipush (v := 9) hx hb dX6_takesDigit_24 (by decide) ?_
    refine z_callS1 (rest := []) S (c_X6_within x 0 9) qm_X6_32 t_X6_within ⟨Nat.le_of_ble_eq_true rfl, Nat.le_of_ble_eq_true rfl⟩ rfl rfl hN hK hP hD hS hA rfl hl.1 rfl (Nat.le_of_ble_eq_true rfl) dX6_takesDigit_26 ⟨Nat.le_of_ble_eq_true rfl, Nat.le_of_ble_eq_true rfl⟩ (fun H locs hP hD hS => ?_)
    refine lv_if_eq (tgt := 43) hx hb dX6_takesDigit_29 (by decide) (fun c2 => ?_) (fun c2 => ?_)
    · have c2 := bI_0 c2
      refine lv_iconst (v := 0) hx hb dX6_takesDigit_43 (by decide) ?_
      refine lv_istore_n (lv' := [(3, .int 0), (2, .int (vM mr x)), (0, .ref (q 0)), (1, .int x)]) hx hb dX6_takesDigit_44 rfl hl (by decide) rfl (fun ls hl => ?_)
      refine lv_aload_n hx hb dX6_takesDigit_45 rfl (lv_at hl 2 rfl) ?_
      refine lv_iload_n hx hb dX6_takesDigit_46 rfl (lv_at hl 0 rfl) ?_
      refine lv_if_eq (tgt := 54) hx hb dX6_takesDigit_47 (by decide) (fun c3 => ?_) (fun c3 => absurd (by decide) c3)
      refine lv_aload_n hx hb dX6_takesDigit_54 rfl (lv_at hl 2 rfl) ?_
      refine va_get (v := .int (mr 4)) hx hb hts inTX6 hown hK hP (0) (mo_0) rfl 8 (by decide) (hts _ qf_X6_123) (fun _ h9 => h9) (rfl) dX6_takesDigit_55 ?_
      refine z_top (v2 := .int (nbM mr x)) (congrArg Value.int (nbM_b (fun q_ => c2 q_.1))) ?_
      refine z_put (v := .int (nbM mr x)) (ty := .int) (ws2 := moW cI q z hi tx pa ke (upd mr 4 (nbM mr x)) hs wr) hx hb hts inTX6 tyX6 tyX6_ok nmX6 hown hK hP hD hS (0) (mo_0) rfl 8 (by decide) (hts _ qf_X6_123) (fun _ h9 => h9) rfl (by decide +kernel) (rfl) (rfl) (Nat.le_of_ble_eq_true rfl) dX6_takesDigit_58 (mo_w0 _ mfl_s4) (fun H locs hP hD hS => ?_)
      refine lv_aload_n hx hb dX6_takesDigit_61 rfl (lv_at hl 2 rfl) ?_
      refine va_get (v := .ref (q 4)) hx hb hts inTX6 hown hK hP (0) (mo_0) rfl 6 (by decide) (hts _ qf_X6_19) (fun _ h9 => h9) (rfl) dX6_takesDigit_62 ?_
      refine lv_iconst (v := 4) hx hb dX6_takesDigit_65 (by decide) ?_
      refine lv_aload_n hx hb dX6_takesDigit_66 rfl (lv_at hl 2 rfl) ?_
      refine va_get (v := .int (nI rd)) hx hb hts inTX6 hown hK hP (0) (mo_0) rfl 7 (by decide) (hts _ qf_X6_126) (fun _ h9 => h9) (congrArg (fun x => some (Value.int x)) ((upd_ne (by omega)).trans (h3))) dX6_takesDigit_67 ?_
      refine lv_imul hx hb dX6_takesDigit_70  ?_
      refine z_top (v2 := .int (nI (4 * rd))) (congrArg Value.int (pk_mul 4 rd)) ?_
      refine lv_iconst (v := 3) hx hb dX6_takesDigit_71 (by decide) ?_
      refine lv_iadd hx hb dX6_takesDigit_72  ?_
      refine z_top (v2 := .int (nI (4 * rd + 3))) (congrArg Value.int (nI_add (4 * rd) 3)) ?_
      refine lv_aload_n hx hb dX6_takesDigit_73 rfl (lv_at hl 2 rfl) ?_
      refine va_get (v := .int (nbM mr x)) hx hb hts inTX6 hown hK hP (0) (mo_0) rfl 8 (by decide) (hts _ qf_X6_123) (fun _ h9 => h9) (congrArg (fun x => some (Value.int x)) (upd_eq rfl)) dX6_takesDigit_74 ?_
      refine z_iast (ws2 := moW cI q z hi tx (upd pa (4 * rd + 3) (nbM mr x)) ke (upd mr 4 (nbM mr x)) hs wr) hx hb hK hP hD hS (4) 0 (mo_4) rfl (vp_in_nI (show 4 * rd + 3 < 40 by omega) (by omega)) dX6_takesDigit_77 (mo_wa4 (z_cl (k := (4 * rd + 3)) rfl)) (fun H locs hP hD hS => ?_)
      refine lv_iload_n hx hb dX6_takesDigit_78 rfl (lv_at hl 0 rfl) ?_
      exact z_zret hx hb hr hlocks hP hD hK hS (rfl) (congrArg (fun b_ => some (Value.int b_)) ((bI_f (fun q_ => c2 q_.1)).symm)) rfl dX6_takesDigit_79
    · have c2 := bI_1 c2
      refine lv_iload_n hx hb dX6_takesDigit_32 rfl (lv_at hl 0 rfl) ?_
      refine z_callS1 (rest := []) S (c_X6_areMinutes (vM mr x)) qm_X6_88 t_X6_areMinutes ⟨Nat.le_of_ble_eq_true rfl, Nat.le_of_ble_eq_true rfl⟩ rfl rfl hN hK hP hD hS hA rfl hl.1 rfl (Nat.le_of_ble_eq_true rfl) dX6_takesDigit_33 ⟨Nat.le_of_ble_eq_true rfl, Nat.le_of_ble_eq_true rfl⟩ (fun H locs hP hD hS => ?_)
      refine lv_if_eq (tgt := 43) hx hb dX6_takesDigit_36 (by decide) (fun c4 => ?_) (fun c4 => ?_)
      · have c4 := bI_0 c4
        refine lv_iconst (v := 0) hx hb dX6_takesDigit_43 (by decide) ?_
        refine lv_istore_n (lv' := [(3, .int 0), (2, .int (vM mr x)), (0, .ref (q 0)), (1, .int x)]) hx hb dX6_takesDigit_44 rfl hl (by decide) rfl (fun ls hl => ?_)
        refine lv_aload_n hx hb dX6_takesDigit_45 rfl (lv_at hl 2 rfl) ?_
        refine lv_iload_n hx hb dX6_takesDigit_46 rfl (lv_at hl 0 rfl) ?_
        refine lv_if_eq (tgt := 54) hx hb dX6_takesDigit_47 (by decide) (fun c5 => ?_) (fun c5 => absurd (by decide) c5)
        refine lv_aload_n hx hb dX6_takesDigit_54 rfl (lv_at hl 2 rfl) ?_
        refine va_get (v := .int (mr 4)) hx hb hts inTX6 hown hK hP (0) (mo_0) rfl 8 (by decide) (hts _ qf_X6_123) (fun _ h9 => h9) (rfl) dX6_takesDigit_55 ?_
        refine z_top (v2 := .int (nbM mr x)) (congrArg Value.int (nbM_b (fun q_ => c4 q_.2))) ?_
        refine z_put (v := .int (nbM mr x)) (ty := .int) (ws2 := moW cI q z hi tx pa ke (upd mr 4 (nbM mr x)) hs wr) hx hb hts inTX6 tyX6 tyX6_ok nmX6 hown hK hP hD hS (0) (mo_0) rfl 8 (by decide) (hts _ qf_X6_123) (fun _ h9 => h9) rfl (by decide +kernel) (rfl) (rfl) (Nat.le_of_ble_eq_true rfl) dX6_takesDigit_58 (mo_w0 _ mfl_s4) (fun H locs hP hD hS => ?_)
        refine lv_aload_n hx hb dX6_takesDigit_61 rfl (lv_at hl 2 rfl) ?_
        refine va_get (v := .ref (q 4)) hx hb hts inTX6 hown hK hP (0) (mo_0) rfl 6 (by decide) (hts _ qf_X6_19) (fun _ h9 => h9) (rfl) dX6_takesDigit_62 ?_
        refine lv_iconst (v := 4) hx hb dX6_takesDigit_65 (by decide) ?_
        refine lv_aload_n hx hb dX6_takesDigit_66 rfl (lv_at hl 2 rfl) ?_
        refine va_get (v := .int (nI rd)) hx hb hts inTX6 hown hK hP (0) (mo_0) rfl 7 (by decide) (hts _ qf_X6_126) (fun _ h9 => h9) (congrArg (fun x => some (Value.int x)) ((upd_ne (by omega)).trans (h3))) dX6_takesDigit_67 ?_
        refine lv_imul hx hb dX6_takesDigit_70  ?_
        refine z_top (v2 := .int (nI (4 * rd))) (congrArg Value.int (pk_mul 4 rd)) ?_
        refine lv_iconst (v := 3) hx hb dX6_takesDigit_71 (by decide) ?_
        refine lv_iadd hx hb dX6_takesDigit_72  ?_
        refine z_top (v2 := .int (nI (4 * rd + 3))) (congrArg Value.int (nI_add (4 * rd) 3)) ?_
        refine lv_aload_n hx hb dX6_takesDigit_73 rfl (lv_at hl 2 rfl) ?_
        refine va_get (v := .int (nbM mr x)) hx hb hts inTX6 hown hK hP (0) (mo_0) rfl 8 (by decide) (hts _ qf_X6_123) (fun _ h9 => h9) (congrArg (fun x => some (Value.int x)) (upd_eq rfl)) dX6_takesDigit_74 ?_
        refine z_iast (ws2 := moW cI q z hi tx (upd pa (4 * rd + 3) (nbM mr x)) ke (upd mr 4 (nbM mr x)) hs wr) hx hb hK hP hD hS (4) 0 (mo_4) rfl (vp_in_nI (show 4 * rd + 3 < 40 by omega) (by omega)) dX6_takesDigit_77 (mo_wa4 (z_cl (k := (4 * rd + 3)) rfl)) (fun H locs hP hD hS => ?_)
        refine lv_iload_n hx hb dX6_takesDigit_78 rfl (lv_at hl 0 rfl) ?_
        exact z_zret hx hb hr hlocks hP hD hK hS (rfl) (congrArg (fun b_ => some (Value.int b_)) ((bI_f (fun q_ => c4 q_.2)).symm)) rfl dX6_takesDigit_79
      · have c4 := bI_1 c4
        refine lv_iconst (v := 1) hx hb dX6_takesDigit_39 (by decide) ?_
        refine lv_goto (tgt := 44) hx hb dX6_takesDigit_40 (by decide) ?_
        refine lv_istore_n (lv' := [(3, .int 1), (2, .int (vM mr x)), (0, .ref (q 0)), (1, .int x)]) hx hb dX6_takesDigit_44 rfl hl (by decide) rfl (fun ls hl => ?_)
        refine lv_aload_n hx hb dX6_takesDigit_45 rfl (lv_at hl 2 rfl) ?_
        refine lv_iload_n hx hb dX6_takesDigit_46 rfl (lv_at hl 0 rfl) ?_
        refine lv_if_eq (tgt := 54) hx hb dX6_takesDigit_47 (by decide) (fun c6 => absurd c6 (by decide)) (fun c6 => ?_)
        refine lv_iload_n hx hb dX6_takesDigit_50 rfl (lv_at hl 1 rfl) ?_
        refine z_top (v2 := .int (nbM mr x)) (congrArg Value.int (nbM_a ⟨c2, c4⟩)) ?_
        refine lv_goto (tgt := 58) hx hb dX6_takesDigit_51 (by decide) ?_
        refine z_put (v := .int (nbM mr x)) (ty := .int) (ws2 := moW cI q z hi tx pa ke (upd mr 4 (nbM mr x)) hs wr) hx hb hts inTX6 tyX6 tyX6_ok nmX6 hown hK hP hD hS (0) (mo_0) rfl 8 (by decide) (hts _ qf_X6_123) (fun _ h9 => h9) rfl (by decide +kernel) (rfl) (rfl) (Nat.le_of_ble_eq_true rfl) dX6_takesDigit_58 (mo_w0 _ mfl_s4) (fun H locs hP hD hS => ?_)
        refine lv_aload_n hx hb dX6_takesDigit_61 rfl (lv_at hl 2 rfl) ?_
        refine va_get (v := .ref (q 4)) hx hb hts inTX6 hown hK hP (0) (mo_0) rfl 6 (by decide) (hts _ qf_X6_19) (fun _ h9 => h9) (rfl) dX6_takesDigit_62 ?_
        refine lv_iconst (v := 4) hx hb dX6_takesDigit_65 (by decide) ?_
        refine lv_aload_n hx hb dX6_takesDigit_66 rfl (lv_at hl 2 rfl) ?_
        refine va_get (v := .int (nI rd)) hx hb hts inTX6 hown hK hP (0) (mo_0) rfl 7 (by decide) (hts _ qf_X6_126) (fun _ h9 => h9) (congrArg (fun x => some (Value.int x)) ((upd_ne (by omega)).trans (h3))) dX6_takesDigit_67 ?_
        refine lv_imul hx hb dX6_takesDigit_70  ?_
        refine z_top (v2 := .int (nI (4 * rd))) (congrArg Value.int (pk_mul 4 rd)) ?_
        refine lv_iconst (v := 3) hx hb dX6_takesDigit_71 (by decide) ?_
        refine lv_iadd hx hb dX6_takesDigit_72  ?_
        refine z_top (v2 := .int (nI (4 * rd + 3))) (congrArg Value.int (nI_add (4 * rd) 3)) ?_
        refine lv_aload_n hx hb dX6_takesDigit_73 rfl (lv_at hl 2 rfl) ?_
        refine va_get (v := .int (nbM mr x)) hx hb hts inTX6 hown hK hP (0) (mo_0) rfl 8 (by decide) (hts _ qf_X6_123) (fun _ h9 => h9) (congrArg (fun x => some (Value.int x)) (upd_eq rfl)) dX6_takesDigit_74 ?_
        refine z_iast (ws2 := moW cI q z hi tx (upd pa (4 * rd + 3) (nbM mr x)) ke (upd mr 4 (nbM mr x)) hs wr) hx hb hK hP hD hS (4) 0 (mo_4) rfl (vp_in_nI (show 4 * rd + 3 < 40 by omega) (by omega)) dX6_takesDigit_77 (mo_wa4 (z_cl (k := (4 * rd + 3)) rfl)) (fun H locs hP hD hS => ?_)
        refine lv_iload_n hx hb dX6_takesDigit_78 rfl (lv_at hl 0 rfl) ?_
        exact z_zret hx hb hr hlocks hP hD hK hS (rfl) (congrArg (fun b_ => some (Value.int b_)) ((bI_t ⟨c2, c4⟩).symm)) rfl dX6_takesDigit_79
  · skip
    refine lv_iload_n hx hb dX6_takesDigit_8 rfl (lv_at hl 1 rfl) ?_
    refine z_top (v2 := .int (vM mr x)) (congrArg Value.int (vM_a c1)) ?_
    refine lv_goto (tgt := 21) hx hb dX6_takesDigit_9 (by decide) ?_
    refine lv_istore_n (lv' := [(2, .int (vM mr x)), (0, .ref (q 0)), (1, .int x)]) hx hb dX6_takesDigit_21 rfl hl (by decide) rfl (fun ls hl => ?_)
    refine lv_iload_n hx hb dX6_takesDigit_22 rfl (lv_at hl 2 rfl) ?_
    refine lv_iconst (v := 0) hx hb dX6_takesDigit_23 (by decide) ?_
    refine lv_bipush (v := 9) hx hb dX6_takesDigit_24 (by decide) ?_
    refine z_callS1 (rest := []) S (c_X6_within x 0 9) qm_X6_32 t_X6_within ⟨Nat.le_of_ble_eq_true rfl, Nat.le_of_ble_eq_true rfl⟩ rfl rfl hN hK hP hD hS hA rfl hl.1 rfl (Nat.le_of_ble_eq_true rfl) dX6_takesDigit_26 ⟨Nat.le_of_ble_eq_true rfl, Nat.le_of_ble_eq_true rfl⟩ (fun H locs hP hD hS => ?_)
    refine lv_if_eq (tgt := 43) hx hb dX6_takesDigit_29 (by decide) (fun c7 => ?_) (fun c7 => ?_)
    · have c7 := bI_0 c7
      refine lv_iconst (v := 0) hx hb dX6_takesDigit_43 (by decide) ?_
      refine lv_istore_n (lv' := [(3, .int 0), (2, .int (vM mr x)), (0, .ref (q 0)), (1, .int x)]) hx hb dX6_takesDigit_44 rfl hl (by decide) rfl (fun ls hl => ?_)
      refine lv_aload_n hx hb dX6_takesDigit_45 rfl (lv_at hl 2 rfl) ?_
      refine lv_iload_n hx hb dX6_takesDigit_46 rfl (lv_at hl 0 rfl) ?_
      refine lv_if_eq (tgt := 54) hx hb dX6_takesDigit_47 (by decide) (fun c8 => ?_) (fun c8 => absurd (by decide) c8)
      refine lv_aload_n hx hb dX6_takesDigit_54 rfl (lv_at hl 2 rfl) ?_
      refine va_get (v := .int (mr 4)) hx hb hts inTX6 hown hK hP (0) (mo_0) rfl 8 (by decide) (hts _ qf_X6_123) (fun _ h9 => h9) (rfl) dX6_takesDigit_55 ?_
      refine z_top (v2 := .int (nbM mr x)) (congrArg Value.int (nbM_b (fun q_ => c7 q_.1))) ?_
      refine z_put (v := .int (nbM mr x)) (ty := .int) (ws2 := moW cI q z hi tx pa ke (upd mr 4 (nbM mr x)) hs wr) hx hb hts inTX6 tyX6 tyX6_ok nmX6 hown hK hP hD hS (0) (mo_0) rfl 8 (by decide) (hts _ qf_X6_123) (fun _ h9 => h9) rfl (by decide +kernel) (rfl) (rfl) (Nat.le_of_ble_eq_true rfl) dX6_takesDigit_58 (mo_w0 _ mfl_s4) (fun H locs hP hD hS => ?_)
      refine lv_aload_n hx hb dX6_takesDigit_61 rfl (lv_at hl 2 rfl) ?_
      refine va_get (v := .ref (q 4)) hx hb hts inTX6 hown hK hP (0) (mo_0) rfl 6 (by decide) (hts _ qf_X6_19) (fun _ h9 => h9) (rfl) dX6_takesDigit_62 ?_
      refine lv_iconst (v := 4) hx hb dX6_takesDigit_65 (by decide) ?_
      refine lv_aload_n hx hb dX6_takesDigit_66 rfl (lv_at hl 2 rfl) ?_
      refine va_get (v := .int (nI rd)) hx hb hts inTX6 hown hK hP (0) (mo_0) rfl 7 (by decide) (hts _ qf_X6_126) (fun _ h9 => h9) (congrArg (fun x => some (Value.int x)) ((upd_ne (by omega)).trans (h3))) dX6_takesDigit_67 ?_
      refine lv_imul hx hb dX6_takesDigit_70  ?_
      refine z_top (v2 := .int (nI (4 * rd))) (congrArg Value.int (pk_mul 4 rd)) ?_
      refine lv_iconst (v := 3) hx hb dX6_takesDigit_71 (by decide) ?_
      refine lv_iadd hx hb dX6_takesDigit_72  ?_
      refine z_top (v2 := .int (nI (4 * rd + 3))) (congrArg Value.int (nI_add (4 * rd) 3)) ?_
      refine lv_aload_n hx hb dX6_takesDigit_73 rfl (lv_at hl 2 rfl) ?_
      refine va_get (v := .int (nbM mr x)) hx hb hts inTX6 hown hK hP (0) (mo_0) rfl 8 (by decide) (hts _ qf_X6_123) (fun _ h9 => h9) (congrArg (fun x => some (Value.int x)) (upd_eq rfl)) dX6_takesDigit_74 ?_
      refine z_iast (ws2 := moW cI q z hi tx (upd pa (4 * rd + 3) (nbM mr x)) ke (upd mr 4 (nbM mr x)) hs wr) hx hb hK hP hD hS (4) 0 (mo_4) rfl (vp_in_nI (show 4 * rd + 3 < 40 by omega) (by omega)) dX6_takesDigit_77 (mo_wa4 (z_cl (k := (4 * rd + 3)) rfl)) (fun H locs hP hD hS => ?_)
      refine lv_iload_n hx hb dX6_takesDigit_78 rfl (lv_at hl 0 rfl) ?_
      exact z_zret hx hb hr hlocks hP hD hK hS (rfl) (congrArg (fun b_ => some (Value.int b_)) ((bI_f (fun q_ => c7 q_.1)).symm)) rfl dX6_takesDigit_79
    · have c7 := bI_1 c7
      refine lv_iload_n hx hb dX6_takesDigit_32 rfl (lv_at hl 0 rfl) ?_
      refine z_callS1 (rest := []) S (c_X6_areMinutes (vM mr x)) qm_X6_88 t_X6_areMinutes ⟨Nat.le_of_ble_eq_true rfl, Nat.le_of_ble_eq_true rfl⟩ rfl rfl hN hK hP hD hS hA rfl hl.1 rfl (Nat.le_of_ble_eq_true rfl) dX6_takesDigit_33 ⟨Nat.le_of_ble_eq_true rfl, Nat.le_of_ble_eq_true rfl⟩ (fun H locs hP hD hS => ?_)
      refine lv_if_eq (tgt := 43) hx hb dX6_takesDigit_36 (by decide) (fun c9 => ?_) (fun c9 => ?_)
      · have c9 := bI_0 c9
        refine lv_iconst (v := 0) hx hb dX6_takesDigit_43 (by decide) ?_
        refine lv_istore_n (lv' := [(3, .int 0), (2, .int (vM mr x)), (0, .ref (q 0)), (1, .int x)]) hx hb dX6_takesDigit_44 rfl hl (by decide) rfl (fun ls hl => ?_)
        refine lv_aload_n hx hb dX6_takesDigit_45 rfl (lv_at hl 2 rfl) ?_
        refine lv_iload_n hx hb dX6_takesDigit_46 rfl (lv_at hl 0 rfl) ?_
        refine lv_if_eq (tgt := 54) hx hb dX6_takesDigit_47 (by decide) (fun c10 => ?_) (fun c10 => absurd (by decide) c10)
        refine lv_aload_n hx hb dX6_takesDigit_54 rfl (lv_at hl 2 rfl) ?_
        refine va_get (v := .int (mr 4)) hx hb hts inTX6 hown hK hP (0) (mo_0) rfl 8 (by decide) (hts _ qf_X6_123) (fun _ h9 => h9) (rfl) dX6_takesDigit_55 ?_
        refine z_top (v2 := .int (nbM mr x)) (congrArg Value.int (nbM_b (fun q_ => c9 q_.2))) ?_
        refine z_put (v := .int (nbM mr x)) (ty := .int) (ws2 := moW cI q z hi tx pa ke (upd mr 4 (nbM mr x)) hs wr) hx hb hts inTX6 tyX6 tyX6_ok nmX6 hown hK hP hD hS (0) (mo_0) rfl 8 (by decide) (hts _ qf_X6_123) (fun _ h9 => h9) rfl (by decide +kernel) (rfl) (rfl) (Nat.le_of_ble_eq_true rfl) dX6_takesDigit_58 (mo_w0 _ mfl_s4) (fun H locs hP hD hS => ?_)
        refine lv_aload_n hx hb dX6_takesDigit_61 rfl (lv_at hl 2 rfl) ?_
        refine va_get (v := .ref (q 4)) hx hb hts inTX6 hown hK hP (0) (mo_0) rfl 6 (by decide) (hts _ qf_X6_19) (fun _ h9 => h9) (rfl) dX6_takesDigit_62 ?_
        refine lv_iconst (v := 4) hx hb dX6_takesDigit_65 (by decide) ?_
        refine lv_aload_n hx hb dX6_takesDigit_66 rfl (lv_at hl 2 rfl) ?_
        refine va_get (v := .int (nI rd)) hx hb hts inTX6 hown hK hP (0) (mo_0) rfl 7 (by decide) (hts _ qf_X6_126) (fun _ h9 => h9) (congrArg (fun x => some (Value.int x)) ((upd_ne (by omega)).trans (h3))) dX6_takesDigit_67 ?_
        refine lv_imul hx hb dX6_takesDigit_70  ?_
        refine z_top (v2 := .int (nI (4 * rd))) (congrArg Value.int (pk_mul 4 rd)) ?_
        refine lv_iconst (v := 3) hx hb dX6_takesDigit_71 (by decide) ?_
        refine lv_iadd hx hb dX6_takesDigit_72  ?_
        refine z_top (v2 := .int (nI (4 * rd + 3))) (congrArg Value.int (nI_add (4 * rd) 3)) ?_
        refine lv_aload_n hx hb dX6_takesDigit_73 rfl (lv_at hl 2 rfl) ?_
        refine va_get (v := .int (nbM mr x)) hx hb hts inTX6 hown hK hP (0) (mo_0) rfl 8 (by decide) (hts _ qf_X6_123) (fun _ h9 => h9) (congrArg (fun x => some (Value.int x)) (upd_eq rfl)) dX6_takesDigit_74 ?_
        refine z_iast (ws2 := moW cI q z hi tx (upd pa (4 * rd + 3) (nbM mr x)) ke (upd mr 4 (nbM mr x)) hs wr) hx hb hK hP hD hS (4) 0 (mo_4) rfl (vp_in_nI (show 4 * rd + 3 < 40 by omega) (by omega)) dX6_takesDigit_77 (mo_wa4 (z_cl (k := (4 * rd + 3)) rfl)) (fun H locs hP hD hS => ?_)
        refine lv_iload_n hx hb dX6_takesDigit_78 rfl (lv_at hl 0 rfl) ?_
        exact z_zret hx hb hr hlocks hP hD hK hS (rfl) (congrArg (fun b_ => some (Value.int b_)) ((bI_f (fun q_ => c9 q_.2)).symm)) rfl dX6_takesDigit_79
      · have c9 := bI_1 c9
        refine lv_iconst (v := 1) hx hb dX6_takesDigit_39 (by decide) ?_
        refine lv_goto (tgt := 44) hx hb dX6_takesDigit_40 (by decide) ?_
        refine lv_istore_n (lv' := [(3, .int 1), (2, .int (vM mr x)), (0, .ref (q 0)), (1, .int x)]) hx hb dX6_takesDigit_44 rfl hl (by decide) rfl (fun ls hl => ?_)
        refine lv_aload_n hx hb dX6_takesDigit_45 rfl (lv_at hl 2 rfl) ?_
        refine lv_iload_n hx hb dX6_takesDigit_46 rfl (lv_at hl 0 rfl) ?_
        refine lv_if_eq (tgt := 54) hx hb dX6_takesDigit_47 (by decide) (fun c11 => absurd c11 (by decide)) (fun c11 => ?_)
        refine lv_iload_n hx hb dX6_takesDigit_50 rfl (lv_at hl 1 rfl) ?_
        refine z_top (v2 := .int (nbM mr x)) (congrArg Value.int (nbM_a ⟨c7, c9⟩)) ?_
        refine lv_goto (tgt := 58) hx hb dX6_takesDigit_51 (by decide) ?_
        refine z_put (v := .int (nbM mr x)) (ty := .int) (ws2 := moW cI q z hi tx pa ke (upd mr 4 (nbM mr x)) hs wr) hx hb hts inTX6 tyX6 tyX6_ok nmX6 hown hK hP hD hS (0) (mo_0) rfl 8 (by decide) (hts _ qf_X6_123) (fun _ h9 => h9) rfl (by decide +kernel) (rfl) (rfl) (Nat.le_of_ble_eq_true rfl) dX6_takesDigit_58 (mo_w0 _ mfl_s4) (fun H locs hP hD hS => ?_)
        refine lv_aload_n hx hb dX6_takesDigit_61 rfl (lv_at hl 2 rfl) ?_
        refine va_get (v := .ref (q 4)) hx hb hts inTX6 hown hK hP (0) (mo_0) rfl 6 (by decide) (hts _ qf_X6_19) (fun _ h9 => h9) (rfl) dX6_takesDigit_62 ?_
        refine lv_iconst (v := 4) hx hb dX6_takesDigit_65 (by decide) ?_
        refine lv_aload_n hx hb dX6_takesDigit_66 rfl (lv_at hl 2 rfl) ?_
        refine va_get (v := .int (nI rd)) hx hb hts inTX6 hown hK hP (0) (mo_0) rfl 7 (by decide) (hts _ qf_X6_126) (fun _ h9 => h9) (congrArg (fun x => some (Value.int x)) ((upd_ne (by omega)).trans (h3))) dX6_takesDigit_67 ?_
        refine lv_imul hx hb dX6_takesDigit_70  ?_
        refine z_top (v2 := .int (nI (4 * rd))) (congrArg Value.int (pk_mul 4 rd)) ?_
        refine lv_iconst (v := 3) hx hb dX6_takesDigit_71 (by decide) ?_
        refine lv_iadd hx hb dX6_takesDigit_72  ?_
        refine z_top (v2 := .int (nI (4 * rd + 3))) (congrArg Value.int (nI_add (4 * rd) 3)) ?_
        refine lv_aload_n hx hb dX6_takesDigit_73 rfl (lv_at hl 2 rfl) ?_
        refine va_get (v := .int (nbM mr x)) hx hb hts inTX6 hown hK hP (0) (mo_0) rfl 8 (by decide) (hts _ qf_X6_123) (fun _ h9 => h9) (congrArg (fun x => some (Value.int x)) (upd_eq rfl)) dX6_takesDigit_74 ?_
        refine z_iast (ws2 := moW cI q z hi tx (upd pa (4 * rd + 3) (nbM mr x)) ke (upd mr 4 (nbM mr x)) hs wr) hx hb hK hP hD hS (4) 0 (mo_4) rfl (vp_in_nI (show 4 * rd + 3 < 40 by omega) (by omega)) dX6_takesDigit_77 (mo_wa4 (z_cl (k := (4 * rd + 3)) rfl)) (fun H locs hP hD hS => ?_)
        refine lv_iload_n hx hb dX6_takesDigit_78 rfl (lv_at hl 0 rfl) ?_
        exact z_zret hx hb hr hlocks hP hD hK hS (rfl) (congrArg (fun b_ => some (Value.int b_)) ((bI_t ⟨c7, c9⟩).symm)) rfl dX6_takesDigit_79
set_option maxHeartbeats 4000000 in
set_option maxRecDepth 100000 in
theorem c_X6_takesMember_0 {rd : Nat} (h3 : mr 3 = nI rd) (hr : rd < 10) (h5 : mr 5 = 0) (x : Int32) : zM l D (zT cI cC cM cB cJ) yX6_takesMember cX6_takesMember 4 (some .boolean) ({ frames := 1, cells := 0, slots := 0, locals := 22 } : Room) [.ref (q 0), .int x] (moW cI q z hi tx pa ke mr hs wr) (moW cI q z hi tx (upd pa (4 * rd + 0) (x - 97)) ke (upd mr 5 1) hs wr) (some (.int (bI (inP x 97 104)))) 0 0 := by
  refine z_enter (by decide) (Nat.le_of_ble_eq_true rfl) ?_
  intro p e s m below meth c A S hr hlocks hnm hN hA hK hP hD hS ls hl
  obtain ⟨hx, hb, hml, hown, hts⟩ := id S
  have hl : lv_has ls 4 [(0, .ref (q 0)), (1, .int x)] := hl
  have hP : va_P D vwCl (moW cI q z hi tx pa ke mr hs wr) s.heap := hP
  have hD : va_D A (moW cI q z hi tx pa ke mr hs wr) := hD
  refine lv_iconst (v := 4) hx hb dX6_takesMember_0 (by decide) ?_
  refine lv_aload_n hx hb dX6_takesMember_1 rfl (lv_at hl 0 rfl) ?_
  refine va_get (v := .int (nI rd)) hx hb hts inTX6 hown hK hP (0) (mo_0) rfl 7 (by decide) (hts _ qf_X6_126) (fun _ h9 => h9) (congrArg (fun x => some (Value.int x)) (h3)) dX6_takesMember_2 ?_
  refine lv_imul hx hb dX6_takesMember_5  ?_
  refine z_top (v2 := .int (nI (4 * rd))) (congrArg Value.int (pk_mul 4 rd)) ?_
  refine lv_aload_n hx hb dX6_takesMember_6 rfl (lv_at hl 0 rfl) ?_
  refine va_get (v := .int 0) hx hb hts inTX6 hown hK hP (0) (mo_0) rfl 9 (by decide) (hts _ qf_X6_129) (fun _ h9 => h9) (congrArg (fun x => some (Value.int x)) (h5)) dX6_takesMember_7 ?_
  refine lv_if_ne (tgt := 17) hx hb dX6_takesMember_10 (by decide) (fun c1 => absurd c1 (by decide)) (fun c1 => ?_)
  refine lv_iconst (v := 0) hx hb dX6_takesMember_13 (by decide) ?_
  refine lv_goto (tgt := 18) hx hb dX6_takesMember_14 (by decide) ?_
  refine lv_iadd hx hb dX6_takesMember_18  ?_
  refine z_top (v2 := .int (nI (4 * rd + 0))) (congrArg Value.int (nI_add (4 * rd) 0)) ?_
  refine lv_istore_n (lv' := [(2, .int (nI (4 * rd + 0))), (0, .ref (q 0)), (1, .int x)]) hx hb dX6_takesMember_19 rfl hl (by decide) rfl (fun ls hl => ?_)
  refine lv_aload_n hx hb dX6_takesMember_20 rfl (lv_at hl 1 rfl) ?_
  refine va_get (v := .ref (q 4)) hx hb hts inTX6 hown hK hP (0) (mo_0) rfl 6 (by decide) (hts _ qf_X6_19) (fun _ h9 => h9) (rfl) dX6_takesMember_21 ?_
  refine lv_iload_n hx hb dX6_takesMember_24 rfl (lv_at hl 0 rfl) ?_
  refine lv_iload_n hx hb dX6_takesMember_25 rfl (lv_at hl 2 rfl) ?_
  refine lv_bipush (v := 97) hx hb dX6_takesMember_26 (by decide) ?_
  refine lv_isub hx hb dX6_takesMember_28  ?_
  refine z_iast (ws2 := moW cI q z hi tx (upd pa (4 * rd + 0) (x - 97)) ke mr hs wr) hx hb hK hP hD hS (4) 0 (mo_4) rfl (vp_in_nI (show 4 * rd + 0 < 40 by omega) (by omega)) dX6_takesMember_29 (mo_wa4 (z_cl (k := (4 * rd + 0)) rfl)) (fun H locs hP hD hS => ?_)
  refine lv_iload_n hx hb dX6_takesMember_30 rfl (lv_at hl 2 rfl) ?_
  refine lv_bipush (v := 97) hx hb dX6_takesMember_31 (by decide) ?_
  refine lv_bipush (v := 104) hx hb dX6_takesMember_33 (by decide) ?_
  refine z_callS1 (rest := []) S (c_X6_within x 97 104) qm_X6_32 t_X6_within ⟨Nat.le_of_ble_eq_true rfl, Nat.le_of_ble_eq_true rfl⟩ rfl rfl hN hK hP hD hS hA rfl hl.1 rfl (Nat.le_of_ble_eq_true rfl) dX6_takesMember_35 ⟨Nat.le_of_ble_eq_true rfl, Nat.le_of_ble_eq_true rfl⟩ (fun H locs hP hD hS => ?_)
  refine lv_if_eq (tgt := 69) hx hb dX6_takesMember_38 (by decide) (fun c2 => ?_) (fun c2 => ?_)
  · have c2 := bI_0 c2
    refine lv_iconst (v := 0) hx hb dX6_takesMember_69 (by decide) ?_
    refine lv_istore_n (lv' := [(3, .int 0), (2, .int (nI (4 * rd + 0))), (0, .ref (q 0)), (1, .int x)]) hx hb dX6_takesMember_70 rfl hl (by decide) rfl (fun ls hl => ?_)
    refine lv_aload_n hx hb dX6_takesMember_71 rfl (lv_at hl 2 rfl) ?_
    refine lv_dup hx hb dX6_takesMember_72 rfl ?_
    refine va_get (v := .int 0) hx hb hts inTX6 hown hK hP (0) (mo_0) rfl 9 (by decide) (hts _ qf_X6_129) (fun _ h9 => h9) (congrArg (fun x => some (Value.int x)) (h5)) dX6_takesMember_73 ?_
    refine lv_iconst (v := 1) hx hb dX6_takesMember_76 (by decide) ?_
    refine lv_iadd hx hb dX6_takesMember_77  ?_
    refine z_top (v2 := .int 1) (congrArg Value.int (show (0 + 1 : Int32) = 1 by decide)) ?_
    refine z_put (v := .int 1) (ty := .int) (ws2 := moW cI q z hi tx (upd pa (4 * rd + 0) (x - 97)) ke (upd mr 5 1) hs wr) hx hb hts inTX6 tyX6 tyX6_ok nmX6 hown hK hP hD hS (0) (mo_0) rfl 9 (by decide) (hts _ qf_X6_129) (fun _ h9 => h9) rfl (by decide +kernel) (rfl) (rfl) (Nat.le_of_ble_eq_true rfl) dX6_takesMember_78 (mo_w0 _ mfl_s5) (fun H locs hP hD hS => ?_)
    refine lv_iload_n hx hb dX6_takesMember_81 rfl (lv_at hl 0 rfl) ?_
    exact z_zret hx hb hr hlocks hP hD hK hS (rfl) (congrArg (fun b_ => some (Value.int b_)) ((bI_f (fun q_ => c2 q_)).symm)) rfl dX6_takesMember_82
  · have c2 := bI_1 c2
    refine lv_aload_n hx hb dX6_takesMember_41 rfl (lv_at hl 1 rfl) ?_
    refine va_get (v := .int 0) hx hb hts inTX6 hown hK hP (0) (mo_0) rfl 9 (by decide) (hts _ qf_X6_129) (fun _ h9 => h9) (congrArg (fun x => some (Value.int x)) (h5)) dX6_takesMember_42 ?_
    refine lv_if_eq (tgt := 65) hx hb dX6_takesMember_45 (by decide) (fun c3 => ?_) (fun c3 => absurd (by decide) c3)
    refine lv_iconst (v := 1) hx hb dX6_takesMember_65 (by decide) ?_
    refine lv_goto (tgt := 70) hx hb dX6_takesMember_66 (by decide) ?_
    refine lv_istore_n (lv' := [(3, .int 1), (2, .int (nI (4 * rd + 0))), (0, .ref (q 0)), (1, .int x)]) hx hb dX6_takesMember_70 rfl hl (by decide) rfl (fun ls hl => ?_)
    refine lv_aload_n hx hb dX6_takesMember_71 rfl (lv_at hl 2 rfl) ?_
    refine lv_dup hx hb dX6_takesMember_72 rfl ?_
    refine va_get (v := .int 0) hx hb hts inTX6 hown hK hP (0) (mo_0) rfl 9 (by decide) (hts _ qf_X6_129) (fun _ h9 => h9) (congrArg (fun x => some (Value.int x)) (h5)) dX6_takesMember_73 ?_
    refine lv_iconst (v := 1) hx hb dX6_takesMember_76 (by decide) ?_
    refine lv_iadd hx hb dX6_takesMember_77  ?_
    refine z_top (v2 := .int 1) (congrArg Value.int (show (0 + 1 : Int32) = 1 by decide)) ?_
    refine z_put (v := .int 1) (ty := .int) (ws2 := moW cI q z hi tx (upd pa (4 * rd + 0) (x - 97)) ke (upd mr 5 1) hs wr) hx hb hts inTX6 tyX6 tyX6_ok nmX6 hown hK hP hD hS (0) (mo_0) rfl 9 (by decide) (hts _ qf_X6_129) (fun _ h9 => h9) rfl (by decide +kernel) (rfl) (rfl) (Nat.le_of_ble_eq_true rfl) dX6_takesMember_78 (mo_w0 _ mfl_s5) (fun H locs hP hD hS => ?_)
    refine lv_iload_n hx hb dX6_takesMember_81 rfl (lv_at hl 0 rfl) ?_
    exact z_zret hx hb hr hlocks hP hD hK hS (rfl) (congrArg (fun b_ => some (Value.int b_)) ((bI_t c2).symm)) rfl dX6_takesMember_82
set_option maxHeartbeats 4000000 in
set_option maxRecDepth 100000 in
theorem c_X6_takesMember_2 {rd : Nat} (h3 : mr 3 = nI rd) (hr : rd < 10) (h5 : mr 5 = 2) (x : Int32) : zM l D (zT cI cC cM cB cJ) yX6_takesMember cX6_takesMember 4 (some .boolean) ({ frames := 1, cells := 0, slots := 0, locals := 22 } : Room) [.ref (q 0), .int x] (moW cI q z hi tx pa ke mr hs wr) (moW cI q z hi tx (upd pa (4 * rd + 1) (x - 97)) ke (upd mr 5 3) hs wr) (some (.int (bI (inP x 97 104 ∧ ¬ (x - 97 = pa (4 * rd)))))) 0 0 := by
  refine z_enter (by decide) (Nat.le_of_ble_eq_true rfl) ?_
  intro p e s m below meth c A S hr hlocks hnm hN hA hK hP hD hS ls hl
  obtain ⟨hx, hb, hml, hown, hts⟩ := id S
  have hl : lv_has ls 4 [(0, .ref (q 0)), (1, .int x)] := hl
  have hP : va_P D vwCl (moW cI q z hi tx pa ke mr hs wr) s.heap := hP
  have hD : va_D A (moW cI q z hi tx pa ke mr hs wr) := hD
  refine lv_iconst (v := 4) hx hb dX6_takesMember_0 (by decide) ?_
  refine lv_aload_n hx hb dX6_takesMember_1 rfl (lv_at hl 0 rfl) ?_
  refine va_get (v := .int (nI rd)) hx hb hts inTX6 hown hK hP (0) (mo_0) rfl 7 (by decide) (hts _ qf_X6_126) (fun _ h9 => h9) (congrArg (fun x => some (Value.int x)) (h3)) dX6_takesMember_2 ?_
  refine lv_imul hx hb dX6_takesMember_5  ?_
  refine z_top (v2 := .int (nI (4 * rd))) (congrArg Value.int (pk_mul 4 rd)) ?_
  refine lv_aload_n hx hb dX6_takesMember_6 rfl (lv_at hl 0 rfl) ?_
  refine va_get (v := .int 2) hx hb hts inTX6 hown hK hP (0) (mo_0) rfl 9 (by decide) (hts _ qf_X6_129) (fun _ h9 => h9) (congrArg (fun x => some (Value.int x)) (h5)) dX6_takesMember_7 ?_
  refine lv_if_ne (tgt := 17) hx hb dX6_takesMember_10 (by decide) (fun c1 => ?_) (fun c1 => absurd c1 (by decide))
  refine lv_iconst (v := 1) hx hb dX6_takesMember_17 (by decide) ?_
  refine lv_iadd hx hb dX6_takesMember_18  ?_
  refine z_top (v2 := .int (nI (4 * rd + 1))) (congrArg Value.int (nI_add (4 * rd) 1)) ?_
  refine lv_istore_n (lv' := [(2, .int (nI (4 * rd + 1))), (0, .ref (q 0)), (1, .int x)]) hx hb dX6_takesMember_19 rfl hl (by decide) rfl (fun ls hl => ?_)
  refine lv_aload_n hx hb dX6_takesMember_20 rfl (lv_at hl 1 rfl) ?_
  refine va_get (v := .ref (q 4)) hx hb hts inTX6 hown hK hP (0) (mo_0) rfl 6 (by decide) (hts _ qf_X6_19) (fun _ h9 => h9) (rfl) dX6_takesMember_21 ?_
  refine lv_iload_n hx hb dX6_takesMember_24 rfl (lv_at hl 0 rfl) ?_
  refine lv_iload_n hx hb dX6_takesMember_25 rfl (lv_at hl 2 rfl) ?_
  refine lv_bipush (v := 97) hx hb dX6_takesMember_26 (by decide) ?_
  refine lv_isub hx hb dX6_takesMember_28  ?_
  refine z_iast (ws2 := moW cI q z hi tx (upd pa (4 * rd + 1) (x - 97)) ke mr hs wr) hx hb hK hP hD hS (4) 0 (mo_4) rfl (vp_in_nI (show 4 * rd + 1 < 40 by omega) (by omega)) dX6_takesMember_29 (mo_wa4 (z_cl (k := (4 * rd + 1)) rfl)) (fun H locs hP hD hS => ?_)
  refine lv_iload_n hx hb dX6_takesMember_30 rfl (lv_at hl 2 rfl) ?_
  refine lv_bipush (v := 97) hx hb dX6_takesMember_31 (by decide) ?_
  refine lv_bipush (v := 104) hx hb dX6_takesMember_33 (by decide) ?_
  refine z_callS1 (rest := []) S (c_X6_within x 97 104) qm_X6_32 t_X6_within ⟨Nat.le_of_ble_eq_true rfl, Nat.le_of_ble_eq_true rfl⟩ rfl rfl hN hK hP hD hS hA rfl hl.1 rfl (Nat.le_of_ble_eq_true rfl) dX6_takesMember_35 ⟨Nat.le_of_ble_eq_true rfl, Nat.le_of_ble_eq_true rfl⟩ (fun H locs hP hD hS => ?_)
  refine lv_if_eq (tgt := 69) hx hb dX6_takesMember_38 (by decide) (fun c2 => ?_) (fun c2 => ?_)
  · have c2 := bI_0 c2
    refine lv_iconst (v := 0) hx hb dX6_takesMember_69 (by decide) ?_
    refine lv_istore_n (lv' := [(3, .int 0), (2, .int (nI (4 * rd + 1))), (0, .ref (q 0)), (1, .int x)]) hx hb dX6_takesMember_70 rfl hl (by decide) rfl (fun ls hl => ?_)
    refine lv_aload_n hx hb dX6_takesMember_71 rfl (lv_at hl 2 rfl) ?_
    refine lv_dup hx hb dX6_takesMember_72 rfl ?_
    refine va_get (v := .int 2) hx hb hts inTX6 hown hK hP (0) (mo_0) rfl 9 (by decide) (hts _ qf_X6_129) (fun _ h9 => h9) (congrArg (fun x => some (Value.int x)) (h5)) dX6_takesMember_73 ?_
    refine lv_iconst (v := 1) hx hb dX6_takesMember_76 (by decide) ?_
    refine lv_iadd hx hb dX6_takesMember_77  ?_
    refine z_top (v2 := .int 3) (congrArg Value.int (show (2 + 1 : Int32) = 3 by decide)) ?_
    refine z_put (v := .int 3) (ty := .int) (ws2 := moW cI q z hi tx (upd pa (4 * rd + 1) (x - 97)) ke (upd mr 5 3) hs wr) hx hb hts inTX6 tyX6 tyX6_ok nmX6 hown hK hP hD hS (0) (mo_0) rfl 9 (by decide) (hts _ qf_X6_129) (fun _ h9 => h9) rfl (by decide +kernel) (rfl) (rfl) (Nat.le_of_ble_eq_true rfl) dX6_takesMember_78 (mo_w0 _ mfl_s5) (fun H locs hP hD hS => ?_)
    refine lv_iload_n hx hb dX6_takesMember_81 rfl (lv_at hl 0 rfl) ?_
    exact z_zret hx hb hr hlocks hP hD hK hS (rfl) (congrArg (fun b_ => some (Value.int b_)) ((bI_f (fun q_ => c2 q_.1)).symm)) rfl dX6_takesMember_82
  · have c2 := bI_1 c2
    refine lv_aload_n hx hb dX6_takesMember_41 rfl (lv_at hl 1 rfl) ?_
    refine va_get (v := .int 2) hx hb hts inTX6 hown hK hP (0) (mo_0) rfl 9 (by decide) (hts _ qf_X6_129) (fun _ h9 => h9) (congrArg (fun x => some (Value.int x)) (h5)) dX6_takesMember_42 ?_
    refine lv_if_eq (tgt := 65) hx hb dX6_takesMember_45 (by decide) (fun c3 => absurd c3 (by decide)) (fun c3 => ?_)
    refine lv_aload_n hx hb dX6_takesMember_48 rfl (lv_at hl 1 rfl) ?_
    refine va_get (v := .ref (q 4)) hx hb hts inTX6 hown hK hP (0) (mo_0) rfl 6 (by decide) (hts _ qf_X6_19) (fun _ h9 => h9) (rfl) dX6_takesMember_49 ?_
    refine lv_iload_n hx hb dX6_takesMember_52 rfl (lv_at hl 0 rfl) ?_
    refine va_iald hx hb hK hP (4) 0 (mo_4) rfl (vp_in_nI (show 4 * rd + 1 < 40 by omega) (by omega)) dX6_takesMember_53 ?_
    refine z_top (v2 := .int ((upd pa (4 * rd + 1) (x - 97)) (4 * rd + 1))) (congrArg Value.int (congrArg (upd pa (4 * rd + 1) (x - 97)) (z_cl (k := (4 * rd + 1)) rfl))) ?_
    refine z_top (v2 := .int (x - 97)) (congrArg Value.int (upd_eq rfl)) ?_
    refine lv_aload_n hx hb dX6_takesMember_54 rfl (lv_at hl 1 rfl) ?_
    refine va_get (v := .ref (q 4)) hx hb hts inTX6 hown hK hP (0) (mo_0) rfl 6 (by decide) (hts _ qf_X6_19) (fun _ h9 => h9) (rfl) dX6_takesMember_55 ?_
    refine lv_iload_n hx hb dX6_takesMember_58 rfl (lv_at hl 0 rfl) ?_
    refine lv_iconst (v := 1) hx hb dX6_takesMember_59 (by decide) ?_
    refine lv_isub hx hb dX6_takesMember_60  ?_
    refine z_top (v2 := .int (nI ((4 * rd + 1) - 1))) (congrArg Value.int (pk_sub (a := 4 * rd + 1) (b := 1) (by omega))) ?_
    refine va_iald hx hb hK hP (4) 0 (mo_4) rfl (vp_in_nI (show (4 * rd + 1) - 1 < 40 by omega) (by omega)) dX6_takesMember_61 ?_
    refine z_top (v2 := .int ((upd pa (4 * rd + 1) (x - 97)) ((4 * rd + 1) - 1))) (congrArg Value.int (congrArg (upd pa (4 * rd + 1) (x - 97)) (z_cl (k := ((4 * rd + 1) - 1)) rfl))) ?_
    refine z_top (v2 := .int (pa (4 * rd))) (congrArg Value.int ((upd_ne (by omega)).trans (congrArg pa (by omega)))) ?_
    refine lv_icmp_eq (tgt := 69) hx hb dX6_takesMember_62 (by decide) (fun c4 => ?_) (fun c4 => ?_)
    · skip
      refine lv_iconst (v := 0) hx hb dX6_takesMember_69 (by decide) ?_
      refine lv_istore_n (lv' := [(3, .int 0), (2, .int (nI (4 * rd + 1))), (0, .ref (q 0)), (1, .int x)]) hx hb dX6_takesMember_70 rfl hl (by decide) rfl (fun ls hl => ?_)
      refine lv_aload_n hx hb dX6_takesMember_71 rfl (lv_at hl 2 rfl) ?_
      refine lv_dup hx hb dX6_takesMember_72 rfl ?_
      refine va_get (v := .int 2) hx hb hts inTX6 hown hK hP (0) (mo_0) rfl 9 (by decide) (hts _ qf_X6_129) (fun _ h9 => h9) (congrArg (fun x => some (Value.int x)) (h5)) dX6_takesMember_73 ?_
      refine lv_iconst (v := 1) hx hb dX6_takesMember_76 (by decide) ?_
      refine lv_iadd hx hb dX6_takesMember_77  ?_
      refine z_top (v2 := .int 3) (congrArg Value.int (show (2 + 1 : Int32) = 3 by decide)) ?_
      refine z_put (v := .int 3) (ty := .int) (ws2 := moW cI q z hi tx (upd pa (4 * rd + 1) (x - 97)) ke (upd mr 5 3) hs wr) hx hb hts inTX6 tyX6 tyX6_ok nmX6 hown hK hP hD hS (0) (mo_0) rfl 9 (by decide) (hts _ qf_X6_129) (fun _ h9 => h9) rfl (by decide +kernel) (rfl) (rfl) (Nat.le_of_ble_eq_true rfl) dX6_takesMember_78 (mo_w0 _ mfl_s5) (fun H locs hP hD hS => ?_)
      refine lv_iload_n hx hb dX6_takesMember_81 rfl (lv_at hl 0 rfl) ?_
      exact z_zret hx hb hr hlocks hP hD hK hS (rfl) (congrArg (fun b_ => some (Value.int b_)) ((bI_f (fun q_ => q_.2 c4)).symm)) rfl dX6_takesMember_82
    · skip
      refine lv_iconst (v := 1) hx hb dX6_takesMember_65 (by decide) ?_
      refine lv_goto (tgt := 70) hx hb dX6_takesMember_66 (by decide) ?_
      refine lv_istore_n (lv' := [(3, .int 1), (2, .int (nI (4 * rd + 1))), (0, .ref (q 0)), (1, .int x)]) hx hb dX6_takesMember_70 rfl hl (by decide) rfl (fun ls hl => ?_)
      refine lv_aload_n hx hb dX6_takesMember_71 rfl (lv_at hl 2 rfl) ?_
      refine lv_dup hx hb dX6_takesMember_72 rfl ?_
      refine va_get (v := .int 2) hx hb hts inTX6 hown hK hP (0) (mo_0) rfl 9 (by decide) (hts _ qf_X6_129) (fun _ h9 => h9) (congrArg (fun x => some (Value.int x)) (h5)) dX6_takesMember_73 ?_
      refine lv_iconst (v := 1) hx hb dX6_takesMember_76 (by decide) ?_
      refine lv_iadd hx hb dX6_takesMember_77  ?_
      refine z_top (v2 := .int 3) (congrArg Value.int (show (2 + 1 : Int32) = 3 by decide)) ?_
      refine z_put (v := .int 3) (ty := .int) (ws2 := moW cI q z hi tx (upd pa (4 * rd + 1) (x - 97)) ke (upd mr 5 3) hs wr) hx hb hts inTX6 tyX6 tyX6_ok nmX6 hown hK hP hD hS (0) (mo_0) rfl 9 (by decide) (hts _ qf_X6_129) (fun _ h9 => h9) rfl (by decide +kernel) (rfl) (rfl) (Nat.le_of_ble_eq_true rfl) dX6_takesMember_78 (mo_w0 _ mfl_s5) (fun H locs hP hD hS => ?_)
      refine lv_iload_n hx hb dX6_takesMember_81 rfl (lv_at hl 0 rfl) ?_
      exact z_zret hx hb hr hlocks hP hD hK hS (rfl) (congrArg (fun b_ => some (Value.int b_)) ((bI_t ⟨c2, c4⟩).symm)) rfl dX6_takesMember_82
set_option maxHeartbeats 4000000 in
set_option maxRecDepth 100000 in
theorem c_X6_takes {st : Tst} (h3 : st.2.1 3 = nI st.2.2) (hr : st.2.2 < 10) (x : Int32) : zM l D (zT cI cC cM cB cJ) yX6_takes cX6_takes 2 (some .boolean) ({ frames := 3, cells := 0, slots := 0, locals := 65 } : Room) [.ref (q 0), .int x] (moW cI q z hi tx st.1 ke st.2.1 hs wr) (moW cI q z hi tx ((tMs st x).1) ke ((tMs st x).2.1) hs wr) (some (.int (tMv st x))) 0 0 := by
  refine z_enter (by decide) (Nat.le_of_ble_eq_true rfl) ?_
  intro p e s m below meth c A S hr hlocks hnm hN hA hK hP hD hS ls hl
  obtain ⟨hx, hb, hml, hown, hts⟩ := id S
  have hl : lv_has ls 2 [(0, .ref (q 0)), (1, .int x)] := hl
  have hP : va_P D vwCl (moW cI q z hi tx st.1 ke st.2.1 hs wr) s.heap := hP
  have hD : va_D A (moW cI q z hi tx st.1 ke st.2.1 hs wr) := hD
  refine lv_aload_n hx hb dX6_takes_0 rfl (lv_at hl 0 rfl) ?_
  refine va_get (v := .int (st.2.1 5)) hx hb hts inTX6 hown hK hP (0) (mo_0) rfl 9 (by decide) (hts _ qf_X6_129) (fun _ h9 => h9) (rfl) dX6_takes_1 ?_
  rcases z_cases4 (st.2.1 5) with c1 | c1 | c1 | c1 | c1 | c1
  · refine lv_tableIn (tgt := 40) (off := 36) hx hb dX6_takes_4 (by rw [c1]; decide) (by rw [c1]; decide) (by rw [c1]; decide) (by decide) ?_
    refine lv_aload_n hx hb dX6_takes_40 rfl (lv_at hl 0 rfl) ?_
    refine lv_iload_n hx hb dX6_takes_41 rfl (lv_at hl 1 rfl) ?_
    refine z_callV1 (rest := []) S (c_X6_takesMember_0 (rd := st.2.2) (h3) (by omega) c1 x) qm_X6_132 v_X6_takesMember ⟨Nat.le_of_ble_eq_true rfl, Nat.le_of_ble_eq_true rfl⟩ rfl rfl hN hK hP hD hS hA (0) (mo_0) rfl rfl hl.1 rfl (Nat.le_of_ble_eq_true rfl) dX6_takes_42 ⟨Nat.le_of_ble_eq_true rfl, Nat.le_of_ble_eq_true rfl⟩ (fun H locs hP hD hS => ?_)
    exact z_zret hx hb hr hlocks hP hD hK hS (by rw [tMs_0 c1]) (congrArg (fun b_ => some (Value.int b_)) ((tMv_0 c1).symm)) (bI_nr _) dX6_takes_45
  · refine lv_tableIn (tgt := 46) (off := 42) hx hb dX6_takes_4 (by rw [c1]; decide) (by rw [c1]; decide) (by rw [c1]; decide) (by decide) ?_
    refine lv_aload_n hx hb dX6_takes_46 rfl (lv_at hl 0 rfl) ?_
    refine lv_iconst (v := 2) hx hb dX6_takes_47 (by decide) ?_
    refine z_put (v := .int 2) (ty := .int) (ws2 := moW cI q z hi tx st.1 ke (upd st.2.1 5 2) hs wr) hx hb hts inTX6 tyX6 tyX6_ok nmX6 hown hK hP hD hS (0) (mo_0) rfl 9 (by decide) (hts _ qf_X6_129) (fun _ h9 => h9) rfl (by decide +kernel) (rfl) (rfl) (Nat.le_of_ble_eq_true rfl) dX6_takes_48 (mo_w0 _ mfl_s5) (fun H locs hP hD hS => ?_)
    refine lv_iload_n hx hb dX6_takes_51 rfl (lv_at hl 1 rfl) ?_
    refine lv_bipush (v := 62) hx hb dX6_takes_52 (by decide) ?_
    refine lv_icmp_ne (tgt := 61) hx hb dX6_takes_54 (by decide) (fun c2 => ?_) (fun c2 => ?_)
    · skip
      refine lv_iconst (v := 0) hx hb dX6_takes_61 (by decide) ?_
      exact z_zret hx hb hr hlocks hP hD hK hS (by rw [tMs_1 c1]) (congrArg (fun b_ => some (Value.int b_)) ((bI_f c2).symm.trans (tMv_1 c1).symm)) rfl dX6_takes_62
    · skip
      refine lv_iconst (v := 1) hx hb dX6_takes_57 (by decide) ?_
      refine lv_goto (tgt := 62) hx hb dX6_takes_58 (by decide) ?_
      exact z_zret hx hb hr hlocks hP hD hK hS (by rw [tMs_1 c1]) (congrArg (fun b_ => some (Value.int b_)) ((bI_t c2).symm.trans (tMv_1 c1).symm)) rfl dX6_takes_62
  · refine lv_tableIn (tgt := 40) (off := 36) hx hb dX6_takes_4 (by rw [c1]; decide) (by rw [c1]; decide) (by rw [c1]; decide) (by decide) ?_
    refine lv_aload_n hx hb dX6_takes_40 rfl (lv_at hl 0 rfl) ?_
    refine lv_iload_n hx hb dX6_takes_41 rfl (lv_at hl 1 rfl) ?_
    refine z_callV1 (rest := []) S (c_X6_takesMember_2 (rd := st.2.2) (h3) (by omega) c1 x) qm_X6_132 v_X6_takesMember ⟨Nat.le_of_ble_eq_true rfl, Nat.le_of_ble_eq_true rfl⟩ rfl rfl hN hK hP hD hS hA (0) (mo_0) rfl rfl hl.1 rfl (Nat.le_of_ble_eq_true rfl) dX6_takes_42 ⟨Nat.le_of_ble_eq_true rfl, Nat.le_of_ble_eq_true rfl⟩ (fun H locs hP hD hS => ?_)
    exact z_zret hx hb hr hlocks hP hD hK hS (by rw [tMs_2 c1]) (congrArg (fun b_ => some (Value.int b_)) ((tMv_2 c1).symm)) (bI_nr _) dX6_takes_45
  · refine lv_tableIn (tgt := 63) (off := 59) hx hb dX6_takes_4 (by rw [c1]; decide) (by rw [c1]; decide) (by rw [c1]; decide) (by decide) ?_
    refine lv_aload_n hx hb dX6_takes_63 rfl (lv_at hl 0 rfl) ?_
    refine va_get (v := .ref (q 4)) hx hb hts inTX6 hown hK hP (0) (mo_0) rfl 6 (by decide) (hts _ qf_X6_19) (fun _ h9 => h9) (rfl) dX6_takes_64 ?_
    refine lv_iconst (v := 4) hx hb dX6_takes_67 (by decide) ?_
    refine lv_aload_n hx hb dX6_takes_68 rfl (lv_at hl 0 rfl) ?_
    refine va_get (v := .int (nI st.2.2)) hx hb hts inTX6 hown hK hP (0) (mo_0) rfl 7 (by decide) (hts _ qf_X6_126) (fun _ h9 => h9) (congrArg (fun x => some (Value.int x)) (h3)) dX6_takes_69 ?_
    refine lv_imul hx hb dX6_takes_72  ?_
    refine z_top (v2 := .int (nI (4 * st.2.2))) (congrArg Value.int (pk_mul 4 st.2.2)) ?_
    refine lv_iconst (v := 2) hx hb dX6_takes_73 (by decide) ?_
    refine lv_iadd hx hb dX6_takes_74  ?_
    refine z_top (v2 := .int (nI (4 * st.2.2 + 2))) (congrArg Value.int (nI_add (4 * st.2.2) 2)) ?_
    refine lv_iload_n hx hb dX6_takes_75 rfl (lv_at hl 1 rfl) ?_
    refine lv_bipush (v := 48) hx hb dX6_takes_76 (by decide) ?_
    refine lv_isub hx hb dX6_takes_78  ?_
    refine z_iast (ws2 := moW cI q z hi tx (upd st.1 (4 * st.2.2 + 2) (x - 48)) ke st.2.1 hs wr) hx hb hK hP hD hS (4) 0 (mo_4) rfl (vp_in_nI (show 4 * st.2.2 + 2 < 40 by omega) (by omega)) dX6_takes_79 (mo_wa4 (z_cl (k := (4 * st.2.2 + 2)) rfl)) (fun H locs hP hD hS => ?_)
    refine lv_aload_n hx hb dX6_takes_80 rfl (lv_at hl 0 rfl) ?_
    refine lv_iconst (v := 4) hx hb dX6_takes_81 (by decide) ?_
    refine z_put (v := .int 4) (ty := .int) (ws2 := moW cI q z hi tx (upd st.1 (4 * st.2.2 + 2) (x - 48)) ke (upd st.2.1 5 4) hs wr) hx hb hts inTX6 tyX6 tyX6_ok nmX6 hown hK hP hD hS (0) (mo_0) rfl 9 (by decide) (hts _ qf_X6_129) (fun _ h9 => h9) rfl (by decide +kernel) (rfl) (rfl) (Nat.le_of_ble_eq_true rfl) dX6_takes_82 (mo_w0 _ mfl_s5) (fun H locs hP hD hS => ?_)
    refine lv_iload_n hx hb dX6_takes_85 rfl (lv_at hl 1 rfl) ?_
    refine lv_bipush (v := 48) hx hb dX6_takes_86 (by decide) ?_
    refine lv_isub hx hb dX6_takes_88  ?_
    refine z_callS1 (rest := []) S (c_X6_isSkill (x - 48)) qm_X6_85 t_X6_isSkill ⟨Nat.le_of_ble_eq_true rfl, Nat.le_of_ble_eq_true rfl⟩ rfl rfl hN hK hP hD hS hA rfl hl.1 rfl (Nat.le_of_ble_eq_true rfl) dX6_takes_89 ⟨Nat.le_of_ble_eq_true rfl, Nat.le_of_ble_eq_true rfl⟩ (fun H locs hP hD hS => ?_)
    exact z_zret hx hb hr hlocks hP hD hK hS (by rw [tMs_3 c1]) (congrArg (fun b_ => some (Value.int b_)) ((tMv_3 c1).symm)) (bI_nr _) dX6_takes_92
  · refine lv_tableIn (tgt := 93) (off := 89) hx hb dX6_takes_4 (by rw [c1]; decide) (by rw [c1]; decide) (by rw [c1]; decide) (by decide) ?_
    refine lv_aload_n hx hb dX6_takes_93 rfl (lv_at hl 0 rfl) ?_
    refine lv_iconst (v := (-1)) hx hb dX6_takes_94 (by decide) ?_
    refine z_put (v := .int (-1)) (ty := .int) (ws2 := moW cI q z hi tx st.1 ke (upd st.2.1 4 (-1)) hs wr) hx hb hts inTX6 tyX6 tyX6_ok nmX6 hown hK hP hD hS (0) (mo_0) rfl 8 (by decide) (hts _ qf_X6_123) (fun _ h9 => h9) rfl (by decide +kernel) (rfl) (rfl) (Nat.le_of_ble_eq_true rfl) dX6_takes_95 (mo_w0 _ mfl_s4) (fun H locs hP hD hS => ?_)
    refine lv_aload_n hx hb dX6_takes_98 rfl (lv_at hl 0 rfl) ?_
    refine lv_iconst (v := 5) hx hb dX6_takes_99 (by decide) ?_
    refine z_put (v := .int 5) (ty := .int) (ws2 := moW cI q z hi tx st.1 ke (upd (upd st.2.1 4 (-1)) 5 5) hs wr) hx hb hts inTX6 tyX6 tyX6_ok nmX6 hown hK hP hD hS (0) (mo_0) rfl 9 (by decide) (hts _ qf_X6_129) (fun _ h9 => h9) rfl (by decide +kernel) (rfl) (rfl) (Nat.le_of_ble_eq_true rfl) dX6_takes_100 (mo_w0 _ mfl_s5) (fun H locs hP hD hS => ?_)
    refine lv_iload_n hx hb dX6_takes_103 rfl (lv_at hl 1 rfl) ?_
    refine lv_bipush (v := 58) hx hb dX6_takes_104 (by decide) ?_
    refine lv_icmp_ne (tgt := 113) hx hb dX6_takes_106 (by decide) (fun c3 => ?_) (fun c3 => ?_)
    · skip
      refine lv_iconst (v := 0) hx hb dX6_takes_113 (by decide) ?_
      exact z_zret hx hb hr hlocks hP hD hK hS (by rw [tMs_4 c1]) (congrArg (fun b_ => some (Value.int b_)) ((bI_f c3).symm.trans (tMv_4 c1).symm)) rfl dX6_takes_114
    · skip
      refine lv_iconst (v := 1) hx hb dX6_takes_109 (by decide) ?_
      refine lv_goto (tgt := 114) hx hb dX6_takes_110 (by decide) ?_
      exact z_zret hx hb hr hlocks hP hD hK hS (by rw [tMs_4 c1]) (congrArg (fun b_ => some (Value.int b_)) ((bI_t c3).symm.trans (tMv_4 c1).symm)) rfl dX6_takes_114
  · refine lv_tableOut (tgt := 115) hx hb dX6_takes_4 c1 (by decide) ?_
    refine lv_iload_n hx hb dX6_takes_115 rfl (lv_at hl 1 rfl) ?_
    refine lv_bipush (v := 59) hx hb dX6_takes_116 (by decide) ?_
    refine lv_icmp_ne (tgt := 146) hx hb dX6_takes_118 (by decide) (fun c4 => ?_) (fun c4 => ?_)
    · skip
      refine lv_aload_n hx hb dX6_takes_146 rfl (lv_at hl 0 rfl) ?_
      refine lv_iload_n hx hb dX6_takes_147 rfl (lv_at hl 1 rfl) ?_
      refine lv_bipush (v := 48) hx hb dX6_takes_148 (by decide) ?_
      refine lv_isub hx hb dX6_takes_150  ?_
      refine z_callV1 (rest := []) S (c_X6_takesDigit (rd := st.2.2) (h3) (by omega) (x - 48)) qm_X6_135 v_X6_takesDigit ⟨Nat.le_of_ble_eq_true rfl, Nat.le_of_ble_eq_true rfl⟩ rfl rfl hN hK hP hD hS hA (0) (mo_0) rfl rfl hl.1 rfl (Nat.le_of_ble_eq_true rfl) dX6_takes_151 ⟨Nat.le_of_ble_eq_true rfl, Nat.le_of_ble_eq_true rfl⟩ (fun H locs hP hD hS => ?_)
      exact z_zret hx hb hr hlocks hP hD hK hS (by rw [tMs_6 c1 (fun q_ => c4 q_.1)]) (congrArg (fun b_ => some (Value.int b_)) ((tMv_6 c1 (fun q_ => c4 q_.1)).symm)) (bI_nr _) dX6_takes_154
    · skip
      refine lv_aload_n hx hb dX6_takes_121 rfl (lv_at hl 0 rfl) ?_
      refine va_get (v := .int (st.2.1 4)) hx hb hts inTX6 hown hK hP (0) (mo_0) rfl 8 (by decide) (hts _ qf_X6_123) (fun _ h9 => h9) (rfl) dX6_takes_122 ?_
      refine lv_iconst (v := (-1)) hx hb dX6_takes_125 (by decide) ?_
      refine lv_icmp_eq (tgt := 146) hx hb dX6_takes_126 (by decide) (fun c5 => ?_) (fun c5 => ?_)
      · skip
        refine lv_aload_n hx hb dX6_takes_146 rfl (lv_at hl 0 rfl) ?_
        refine lv_iload_n hx hb dX6_takes_147 rfl (lv_at hl 1 rfl) ?_
        refine lv_bipush (v := 48) hx hb dX6_takes_148 (by decide) ?_
        refine lv_isub hx hb dX6_takes_150  ?_
        refine z_callV1 (rest := []) S (c_X6_takesDigit (rd := st.2.2) (h3) (by omega) (x - 48)) qm_X6_135 v_X6_takesDigit ⟨Nat.le_of_ble_eq_true rfl, Nat.le_of_ble_eq_true rfl⟩ rfl rfl hN hK hP hD hS hA (0) (mo_0) rfl rfl hl.1 rfl (Nat.le_of_ble_eq_true rfl) dX6_takes_151 ⟨Nat.le_of_ble_eq_true rfl, Nat.le_of_ble_eq_true rfl⟩ (fun H locs hP hD hS => ?_)
        exact z_zret hx hb hr hlocks hP hD hK hS (by rw [tMs_6 c1 (fun q_ => q_.2 c5)]) (congrArg (fun b_ => some (Value.int b_)) ((tMv_6 c1 (fun q_ => q_.2 c5)).symm)) (bI_nr _) dX6_takes_154
      · skip
        refine lv_aload_n hx hb dX6_takes_129 rfl (lv_at hl 0 rfl) ?_
        refine lv_dup hx hb dX6_takes_130 rfl ?_
        refine va_get (v := .int (nI st.2.2)) hx hb hts inTX6 hown hK hP (0) (mo_0) rfl 7 (by decide) (hts _ qf_X6_126) (fun _ h9 => h9) (congrArg (fun x => some (Value.int x)) (h3)) dX6_takes_131 ?_
        refine lv_iconst (v := 1) hx hb dX6_takes_134 (by decide) ?_
        refine lv_iadd hx hb dX6_takes_135  ?_
        refine z_top (v2 := .int (nI (st.2.2 + 1))) (congrArg Value.int (nI_add st.2.2 1)) ?_
        refine z_put (v := .int (nI (st.2.2 + 1))) (ty := .int) (ws2 := moW cI q z hi tx st.1 ke (upd st.2.1 3 (nI (st.2.2 + 1))) hs wr) hx hb hts inTX6 tyX6 tyX6_ok nmX6 hown hK hP hD hS (0) (mo_0) rfl 7 (by decide) (hts _ qf_X6_126) (fun _ h9 => h9) rfl (by decide +kernel) (rfl) (rfl) (Nat.le_of_ble_eq_true rfl) dX6_takes_136 (mo_w0 _ mfl_s3) (fun H locs hP hD hS => ?_)
        refine lv_aload_n hx hb dX6_takes_139 rfl (lv_at hl 0 rfl) ?_
        refine lv_iconst (v := 0) hx hb dX6_takes_140 (by decide) ?_
        refine z_put (v := .int 0) (ty := .int) (ws2 := moW cI q z hi tx st.1 ke (upd (upd st.2.1 3 (nI (st.2.2 + 1))) 5 0) hs wr) hx hb hts inTX6 tyX6 tyX6_ok nmX6 hown hK hP hD hS (0) (mo_0) rfl 9 (by decide) (hts _ qf_X6_129) (fun _ h9 => h9) rfl (by decide +kernel) (rfl) (rfl) (Nat.le_of_ble_eq_true rfl) dX6_takes_141 (mo_w0 _ mfl_s5) (fun H locs hP hD hS => ?_)
        refine lv_iconst (v := 1) hx hb dX6_takes_144 (by decide) ?_
        exact z_zret hx hb hr hlocks hP hD hK hS (by rw [tMs_5 c1 ⟨c4, c5⟩]) (congrArg (fun b_ => some (Value.int b_)) ((tMv_5 c1 ⟨c4, c5⟩).symm)) rfl dX6_takes_145
set_option maxHeartbeats 4000000 in
set_option maxRecDepth 100000 in
theorem c_X6_rightUpTo {nb : Nat} (hnb : nb ≤ 60) (h1 : mr 1 = nI nb) : zM l D (zT cI cC cM cB cJ) yX6_rightUpTo cX6_rightUpTo 2 (some .int) ({ frames := 4, cells := 0, slots := 0, locals := 86 } : Room) [.ref (q 0)] (moW cI q z hi tx pa ke mr hs wr) (moW cI q z hi tx ((fmS tx (tM0 pa mr) 0 nb).1) ke ((fmS tx (tM0 pa mr) 0 nb).2.1) hs wr) (some (.int (nI (fmN tx (tM0 pa mr) 0 nb)))) 0 0 := by
  refine z_enter (by decide) (Nat.le_of_ble_eq_true rfl) ?_
  intro p e s m below meth c A S hr hlocks hnm hN hA hK hP hD hS ls hl
  obtain ⟨hx, hb, hml, hown, hts⟩ := id S
  have hl : lv_has ls 2 [(0, .ref (q 0))] := hl
  have hP : va_P D vwCl (moW cI q z hi tx pa ke mr hs wr) s.heap := hP
  have hD : va_D A (moW cI q z hi tx pa ke mr hs wr) := hD
  refine lv_aload_n hx hb dX6_rightUpTo_0 rfl (lv_at hl 0 rfl) ?_
  refine lv_iconst (v := 0) hx hb dX6_rightUpTo_1 (by decide) ?_
  refine z_put (v := .int 0) (ty := .int) (ws2 := moW cI q z hi tx pa ke (upd mr 3 0) hs wr) hx hb hts inTX6 tyX6 tyX6_ok nmX6 hown hK hP hD hS (0) (mo_0) rfl 7 (by decide) (hts _ qf_X6_126) (fun _ h9 => h9) rfl (by decide +kernel) (rfl) (rfl) (Nat.le_of_ble_eq_true rfl) dX6_rightUpTo_2 (mo_w0 _ mfl_s3) (fun H locs hP hD hS => ?_)
  refine lv_aload_n hx hb dX6_rightUpTo_5 rfl (lv_at hl 0 rfl) ?_
  refine lv_iconst (v := 0) hx hb dX6_rightUpTo_6 (by decide) ?_
  refine z_put (v := .int 0) (ty := .int) (ws2 := moW cI q z hi tx pa ke (upd (upd mr 3 0) 5 0) hs wr) hx hb hts inTX6 tyX6 tyX6_ok nmX6 hown hK hP hD hS (0) (mo_0) rfl 9 (by decide) (hts _ qf_X6_129) (fun _ h9 => h9) rfl (by decide +kernel) (rfl) (rfl) (Nat.le_of_ble_eq_true rfl) dX6_rightUpTo_7 (mo_w0 _ mfl_s5) (fun H locs hP hD hS => ?_)
  refine lv_iconst (v := 0) hx hb dX6_rightUpTo_10 (by decide) ?_
  refine lv_istore_n (lv' := [(1, .int 0), (0, .ref (q 0))]) hx hb dX6_rightUpTo_11 rfl hl (by decide) rfl (fun ls hl => ?_)
  have K12 : ∀ (n12 i : Nat), i + n12 = nb → fmI tx pa mr nb i → ∀ (H : Heap) (locs : List Loc), va_P D vwCl (moW cI q z hi tx ((smI tx (tM0 pa mr) i).1) ke ((smI tx (tM0 pa mr) i).2.1) hs wr) H → va_D A (moW cI q z hi tx ((smI tx (tM0 pa mr) i).1) ke ((smI tx (tM0 pa mr) i).2.1) hs wr) → va_S A s.heap H locs → ∀ ls : Array Slot, lv_has ls 2 [(0, .ref (q 0)), (1, .int (nI i))] → W p l e ({ frames := 4, cells := 0, slots := 0, locals := 86 } : Room) s m ([.ref (q 0)] : List Value).toArray below meth c H locs 0 0 (MQ below (zQ D (zT cI cC cM cB cJ) (moW cI q z hi tx ((fmS tx (tM0 pa mr) 0 nb).1) ke ((fmS tx (tM0 pa mr) 0 nb).2.1) hs wr) (some (.int (nI (fmN tx (tM0 pa mr) 0 nb)))) A) ([.ref (q 0)] : List Value).toArray s 0 0 A) (F0 m 12 ls []) := by
    intro n12
    induction n12 with
    | zero =>
      intro i h_i hinv12 H locs hP hD hS ls hl
      have ei : nb = i := by omega
      subst ei
      refine lv_iload_n hx hb dX6_rightUpTo_12 rfl (lv_at hl 1 rfl) ?_
      refine lv_aload_n hx hb dX6_rightUpTo_13 rfl (lv_at hl 0 rfl) ?_
      refine va_get (v := .int (nI nb)) hx hb hts inTX6 hown hK hP (0) (mo_0) rfl 3 (by decide) (hts _ qf_X6_120) (fun _ h9 => h9) (congrArg (fun x => some (Value.int x)) ((smI_i h1 _).1)) dX6_rightUpTo_14 ?_
      refine lv_icmp_ge (tgt := 39) hx hb dX6_rightUpTo_17 (by decide) (fun c1 => ?_) (fun c1 => absurd (nI_le (a := nb) (b := nb) (by omega) (by omega)) c1)
      have c1 := z_nlt c1
      refine lv_iload_n hx hb dX6_rightUpTo_39 rfl (lv_at hl 1 rfl) ?_
      exact z_iret hx hb hr hlocks hP hD hK hS (by rw [(fm_end hinv12).2]) (congrArg (fun b_ => some (Value.int b_)) (by rw [(fm_end hinv12).1])) dX6_rightUpTo_40
    | succ n12 ih12 =>
      intro i h_i hinv12 H locs hP hD hS ls hl
      have li : i < nb := by omega
      refine lv_iload_n hx hb dX6_rightUpTo_12 rfl (lv_at hl 1 rfl) ?_
      refine lv_aload_n hx hb dX6_rightUpTo_13 rfl (lv_at hl 0 rfl) ?_
      refine va_get (v := .int (nI nb)) hx hb hts inTX6 hown hK hP (0) (mo_0) rfl 3 (by decide) (hts _ qf_X6_120) (fun _ h9 => h9) (congrArg (fun x => some (Value.int x)) ((smI_i h1 _).1)) dX6_rightUpTo_14 ?_
      refine lv_icmp_ge (tgt := 39) hx hb dX6_rightUpTo_17 (by decide) (fun c2 => absurd c2 (nI_ge (a := i) (b := nb) (by omega) (by omega))) (fun c2 => ?_)
      have c2 := z_lt c2
      refine lv_aload_n hx hb dX6_rightUpTo_20 rfl (lv_at hl 0 rfl) ?_
      refine lv_aload_n hx hb dX6_rightUpTo_21 rfl (lv_at hl 0 rfl) ?_
      refine va_get (v := .ref (q 3)) hx hb hts inTX6 hown hK hP (0) (mo_0) rfl 4 (by decide) (hts _ qf_X6_16) (fun _ h9 => h9) (rfl) dX6_rightUpTo_22 ?_
      refine lv_iload_n hx hb dX6_rightUpTo_25 rfl (lv_at hl 1 rfl) ?_
      refine va_iald hx hb hK hP (3) 0 (mo_3) rfl (vp_in_nI (show i < 60 by omega) (by omega)) dX6_rightUpTo_26 ?_
      refine z_top (v2 := .int (tx i)) (congrArg Value.int (congrArg tx (z_cl (k := i) rfl))) ?_
      refine z_callV1 (rest := []) S (c_X6_takes (st := (smI tx (tM0 pa mr) i)) ((smI_i h1 _).2.1) (tMi_r (smI_i h1 _) (by omega)) (tx i)) qm_X6_138 v_X6_takes ⟨Nat.le_of_ble_eq_true rfl, Nat.le_of_ble_eq_true rfl⟩ rfl rfl hN hK hP hD hS hA (0) (mo_0) rfl rfl hl.1 rfl (Nat.le_of_ble_eq_true rfl) dX6_rightUpTo_27 ⟨Nat.le_of_ble_eq_true rfl, Nat.le_of_ble_eq_true rfl⟩ (fun H locs hP hD hS => ?_)
      refine lv_if_eq (tgt := 39) hx hb dX6_rightUpTo_30 (by decide) (fun c3 => ?_) (fun c3 => ?_)
      · skip
        refine lv_iload_n hx hb dX6_rightUpTo_39 rfl (lv_at hl 1 rfl) ?_
        exact z_iret hx hb hr hlocks hP hD hK hS (by rw [(fm_stop hinv12 li c3).2]) (congrArg (fun b_ => some (Value.int b_)) (by rw [(fm_stop hinv12 li c3).1])) dX6_rightUpTo_40
      · skip
        refine lv_iinc (v := nI (i + 1)) (lv' := [(1, .int (nI (i + 1))), (0, .ref (q 0))]) hx hb dX6_rightUpTo_33 hl (k := 1) rfl (nI_1 _) (by decide) rfl (fun ls hl => ?_)
        refine lv_goto (tgt := 12) hx hb dX6_rightUpTo_36 (by decide) ?_
        have hP := va_P_eq (w2 := moW cI q z hi tx ((smI tx (tM0 pa mr) (i + 1)).1) ke ((smI tx (tM0 pa mr) (i + 1)).2.1) hs wr) (rfl) hP
        have hD := va_D_eq (w2 := moW cI q z hi tx ((smI tx (tM0 pa mr) (i + 1)).1) ke ((smI tx (tM0 pa mr) (i + 1)).2.1) hs wr) (rfl) hD
        exact ih12 (i + 1) (by omega) (fm_inv hinv12 li c3) _ _ hP hD hS ls (lv_sub hl [1, 0] rfl)
  have hl := (congrArg (fun qv_ => lv_has ls 2 [(1, qv_), (0, .ref (q 0))]) (show Value.int 0 = .int (nI 0) from congrArg Value.int (rfl))).mp hl
  have hP := va_P_eq (w2 := moW cI q z hi tx ((smI tx (tM0 pa mr) 0).1) ke ((smI tx (tM0 pa mr) 0).2.1) hs wr) (rfl) hP
  have hD := va_D_eq (w2 := moW cI q z hi tx ((smI tx (tM0 pa mr) 0).1) ke ((smI tx (tM0 pa mr) 0).2.1) hs wr) (rfl) hD
  exact K12 nb 0 (by omega) ⟨rfl, rfl⟩ _ _ hP hD hS ls (lv_sub hl [1, 0] rfl)
set_option maxHeartbeats 4000000 in
set_option maxRecDepth 100000 in
theorem c_X6_makes {n : Nat} (hn : n ≤ 8) (hz : z 5 = nI n) (hB : hBool z) {i : Nat} (hi10 : i < 10) {g t k : Nat} (hg : g < 8) (ht : t < 8) (hgt : g ≠ t) (hk : k < 5) (e0 : pa (4 * i) = nI g) (e1 : pa (4 * i + 1) = nI t) (e2 : pa (4 * i + 2) = nI k) : zM l D (zT cI cC cM cB cJ) yX6_makes cX6_makes 5 (some .boolean) ({ frames := 4, cells := 0, slots := 0, locals := 96 } : Room) [.ref (q 0), .int (nI i)] (moW cI q z hi tx pa ke mr hs wr) (moW cI q (if alwP z n g t k (pa (4 * i + 3)) then dealZ z g t k (pa (4 * i + 3)) else z) hi tx pa ke mr hs wr) (some (.int (bI (alwP z n g t k (pa (4 * i + 3)))))) 0 0 := by
  refine z_enter (by decide) (Nat.le_of_ble_eq_true rfl) ?_
  intro p e s m below meth c A S hr hlocks hnm hN hA hK hP hD hS ls hl
  obtain ⟨hx, hb, hml, hown, hts⟩ := id S
  have hl : lv_has ls 5 [(0, .ref (q 0)), (1, .int (nI i))] := hl
  have hP : va_P D vwCl (moW cI q z hi tx pa ke mr hs wr) s.heap := hP
  have hD : va_D A (moW cI q z hi tx pa ke mr hs wr) := hD
  refine lv_iconst (v := 4) hx hb dX6_makes_0 (by decide) ?_
  refine lv_iload_n hx hb dX6_makes_1 rfl (lv_at hl 1 rfl) ?_
  refine lv_imul hx hb dX6_makes_2  ?_
  refine z_top (v2 := .int (nI (4 * i))) (congrArg Value.int (pk_mul 4 i)) ?_
  refine lv_istore_n (lv' := [(2, .int (nI (4 * i))), (0, .ref (q 0)), (1, .int (nI i))]) hx hb dX6_makes_3 rfl hl (by decide) rfl (fun ls hl => ?_)
  refine lv_aload_n hx hb dX6_makes_4 rfl (lv_at hl 1 rfl) ?_
  refine lv_aload_n hx hb dX6_makes_5 rfl (lv_at hl 1 rfl) ?_
  refine va_get (v := .ref (q 4)) hx hb hts inTX6 hown hK hP (0) (mo_0) rfl 6 (by decide) (hts _ qf_X6_19) (fun _ h9 => h9) (rfl) dX6_makes_6 ?_
  refine lv_iload_n hx hb dX6_makes_9 rfl (lv_at hl 0 rfl) ?_
  refine va_iald hx hb hK hP (4) 0 (mo_4) rfl (vp_in_nI (show 4 * i < 40 by omega) (by omega)) dX6_makes_10 ?_
  refine z_top (v2 := .int (nI g)) (congrArg Value.int ((congrArg pa (z_cl (k := (4 * i)) rfl)).trans (e0))) ?_
  refine z_callV1 (rest := []) S (c_X6_isMember (n := n) (show n ≤ 8 by omega) (hz) (nI g)) qm_X6_64 v_X6_isMember ⟨Nat.le_of_ble_eq_true rfl, Nat.le_of_ble_eq_true rfl⟩ rfl rfl hN hK hP hD hS hA (0) (mo_0) rfl rfl hl.1 rfl (Nat.le_of_ble_eq_true rfl) dX6_makes_11 ⟨Nat.le_of_ble_eq_true rfl, Nat.le_of_ble_eq_true rfl⟩ (fun H locs hP hD hS => ?_)
  refine lv_if_eq (tgt := 73) hx hb dX6_makes_14 (by decide) (fun c1 => ?_) (fun c1 => ?_)
  · have c1 := bI_0 c1
    refine lv_iconst (v := 0) hx hb dX6_makes_73 (by decide) ?_
    refine lv_istore_n (lv' := [(3, .int 0), (2, .int (nI (4 * i))), (0, .ref (q 0)), (1, .int (nI i))]) hx hb dX6_makes_74 rfl hl (by decide) rfl (fun ls hl => ?_)
    refine lv_iload_n hx hb dX6_makes_75 rfl (lv_at hl 0 rfl) ?_
    refine lv_if_eq (tgt := 116) hx hb dX6_makes_76 (by decide) (fun c2 => ?_) (fun c2 => absurd (by decide) c2)
    refine lv_iconst (v := 0) hx hb dX6_makes_116 (by decide) ?_
    refine lv_istore (lv' := [(4, .int 0), (3, .int 0), (2, .int (nI (4 * i))), (0, .ref (q 0)), (1, .int (nI i))]) hx hb dX6_makes_117 hl (by decide) rfl (fun ls hl => ?_)
    refine lv_iload_n hx hb dX6_makes_119 rfl (lv_at hl 1 rfl) ?_
    exact z_zret hx hb hr hlocks hP hD hK hS (congrArg (fun z_ => moW cI q z_ hi tx pa ke mr hs wr) ((if_neg (fun q_ => c1 q_.1)).symm)) (congrArg (fun b_ => some (Value.int b_)) ((bI_f (fun q_ => c1 q_.1)).symm)) rfl dX6_makes_120
  · have c1 := bI_1 c1
    refine lv_aload_n hx hb dX6_makes_17 rfl (lv_at hl 1 rfl) ?_
    refine lv_aload_n hx hb dX6_makes_18 rfl (lv_at hl 1 rfl) ?_
    refine va_get (v := .ref (q 4)) hx hb hts inTX6 hown hK hP (0) (mo_0) rfl 6 (by decide) (hts _ qf_X6_19) (fun _ h9 => h9) (rfl) dX6_makes_19 ?_
    refine lv_iload_n hx hb dX6_makes_22 rfl (lv_at hl 0 rfl) ?_
    refine lv_iconst (v := 1) hx hb dX6_makes_23 (by decide) ?_
    refine lv_iadd hx hb dX6_makes_24  ?_
    refine z_top (v2 := .int (nI (4 * i + 1))) (congrArg Value.int (nI_add (4 * i) 1)) ?_
    refine va_iald hx hb hK hP (4) 0 (mo_4) rfl (vp_in_nI (show 4 * i + 1 < 40 by omega) (by omega)) dX6_makes_25 ?_
    refine z_top (v2 := .int (nI t)) (congrArg Value.int ((congrArg pa (z_cl (k := (4 * i + 1)) rfl)).trans (e1))) ?_
    refine z_callV1 (rest := []) S (c_X6_isMember (n := n) (show n ≤ 8 by omega) (hz) (nI t)) qm_X6_64 v_X6_isMember ⟨Nat.le_of_ble_eq_true rfl, Nat.le_of_ble_eq_true rfl⟩ rfl rfl hN hK hP hD hS hA (0) (mo_0) rfl rfl hl.1 rfl (Nat.le_of_ble_eq_true rfl) dX6_makes_26 ⟨Nat.le_of_ble_eq_true rfl, Nat.le_of_ble_eq_true rfl⟩ (fun H locs hP hD hS => ?_)
    refine lv_if_eq (tgt := 73) hx hb dX6_makes_29 (by decide) (fun c3 => ?_) (fun c3 => ?_)
    · have c3 := bI_0 c3
      refine lv_iconst (v := 0) hx hb dX6_makes_73 (by decide) ?_
      refine lv_istore_n (lv' := [(3, .int 0), (2, .int (nI (4 * i))), (0, .ref (q 0)), (1, .int (nI i))]) hx hb dX6_makes_74 rfl hl (by decide) rfl (fun ls hl => ?_)
      refine lv_iload_n hx hb dX6_makes_75 rfl (lv_at hl 0 rfl) ?_
      refine lv_if_eq (tgt := 116) hx hb dX6_makes_76 (by decide) (fun c4 => ?_) (fun c4 => absurd (by decide) c4)
      refine lv_iconst (v := 0) hx hb dX6_makes_116 (by decide) ?_
      refine lv_istore (lv' := [(4, .int 0), (3, .int 0), (2, .int (nI (4 * i))), (0, .ref (q 0)), (1, .int (nI i))]) hx hb dX6_makes_117 hl (by decide) rfl (fun ls hl => ?_)
      refine lv_iload_n hx hb dX6_makes_119 rfl (lv_at hl 1 rfl) ?_
      exact z_zret hx hb hr hlocks hP hD hK hS (congrArg (fun z_ => moW cI q z_ hi tx pa ke mr hs wr) ((if_neg (fun q_ => c3 q_.2.1)).symm)) (congrArg (fun b_ => some (Value.int b_)) ((bI_f (fun q_ => c3 q_.2.1)).symm)) rfl dX6_makes_120
    · have c3 := bI_1 c3
      refine lv_aload_n hx hb dX6_makes_32 rfl (lv_at hl 1 rfl) ?_
      refine lv_aload_n hx hb dX6_makes_33 rfl (lv_at hl 1 rfl) ?_
      refine va_get (v := .ref (q 4)) hx hb hts inTX6 hown hK hP (0) (mo_0) rfl 6 (by decide) (hts _ qf_X6_19) (fun _ h9 => h9) (rfl) dX6_makes_34 ?_
      refine lv_iload_n hx hb dX6_makes_37 rfl (lv_at hl 0 rfl) ?_
      refine va_iald hx hb hK hP (4) 0 (mo_4) rfl (vp_in_nI (show 4 * i < 40 by omega) (by omega)) dX6_makes_38 ?_
      refine z_top (v2 := .int (nI g)) (congrArg Value.int ((congrArg pa (z_cl (k := (4 * i)) rfl)).trans (e0))) ?_
      refine lv_aload_n hx hb dX6_makes_39 rfl (lv_at hl 1 rfl) ?_
      refine va_get (v := .ref (q 4)) hx hb hts inTX6 hown hK hP (0) (mo_0) rfl 6 (by decide) (hts _ qf_X6_19) (fun _ h9 => h9) (rfl) dX6_makes_40 ?_
      refine lv_iload_n hx hb dX6_makes_43 rfl (lv_at hl 0 rfl) ?_
      refine lv_iconst (v := 1) hx hb dX6_makes_44 (by decide) ?_
      refine lv_iadd hx hb dX6_makes_45  ?_
      refine z_top (v2 := .int (nI (4 * i + 1))) (congrArg Value.int (nI_add (4 * i) 1)) ?_
      refine va_iald hx hb hK hP (4) 0 (mo_4) rfl (vp_in_nI (show 4 * i + 1 < 40 by omega) (by omega)) dX6_makes_46 ?_
      refine z_top (v2 := .int (nI t)) (congrArg Value.int ((congrArg pa (z_cl (k := (4 * i + 1)) rfl)).trans (e1))) ?_
      refine lv_aload_n hx hb dX6_makes_47 rfl (lv_at hl 1 rfl) ?_
      refine va_get (v := .ref (q 4)) hx hb hts inTX6 hown hK hP (0) (mo_0) rfl 6 (by decide) (hts _ qf_X6_19) (fun _ h9 => h9) (rfl) dX6_makes_48 ?_
      refine lv_iload_n hx hb dX6_makes_51 rfl (lv_at hl 0 rfl) ?_
      refine lv_iconst (v := 2) hx hb dX6_makes_52 (by decide) ?_
      refine lv_iadd hx hb dX6_makes_53  ?_
      refine z_top (v2 := .int (nI (4 * i + 2))) (congrArg Value.int (nI_add (4 * i) 2)) ?_
      refine va_iald hx hb hK hP (4) 0 (mo_4) rfl (vp_in_nI (show 4 * i + 2 < 40 by omega) (by omega)) dX6_makes_54 ?_
      refine z_top (v2 := .int (nI k)) (congrArg Value.int ((congrArg pa (z_cl (k := (4 * i + 2)) rfl)).trans (e2))) ?_
      refine lv_aload_n hx hb dX6_makes_55 rfl (lv_at hl 1 rfl) ?_
      refine va_get (v := .ref (q 4)) hx hb hts inTX6 hown hK hP (0) (mo_0) rfl 6 (by decide) (hts _ qf_X6_19) (fun _ h9 => h9) (rfl) dX6_makes_56 ?_
      refine lv_iload_n hx hb dX6_makes_59 rfl (lv_at hl 0 rfl) ?_
      refine lv_iconst (v := 3) hx hb dX6_makes_60 (by decide) ?_
      refine lv_iadd hx hb dX6_makes_61  ?_
      refine z_top (v2 := .int (nI (4 * i + 3))) (congrArg Value.int (nI_add (4 * i) 3)) ?_
      refine va_iald hx hb hK hP (4) 0 (mo_4) rfl (vp_in_nI (show 4 * i + 3 < 40 by omega) (by omega)) dX6_makes_62 ?_
      refine z_top (v2 := .int (pa (4 * i + 3))) (congrArg Value.int (congrArg pa (z_cl (k := (4 * i + 3)) rfl))) ?_
      refine z_callV1 (rest := []) S (c_X6_canDeal hB g t k (show g < 8 by omega) (show t < 8 by omega) (show k < 5 by omega) (pa (4 * i + 3))) qm_X6_91 v_X6_canDeal ⟨Nat.le_of_ble_eq_true rfl, Nat.le_of_ble_eq_true rfl⟩ rfl rfl hN hK hP hD hS hA (0) (mo_0) rfl rfl hl.1 rfl (Nat.le_of_ble_eq_true rfl) dX6_makes_63 ⟨Nat.le_of_ble_eq_true rfl, Nat.le_of_ble_eq_true rfl⟩ (fun H locs hP hD hS => ?_)
      refine lv_if_eq (tgt := 73) hx hb dX6_makes_66 (by decide) (fun c5 => ?_) (fun c5 => ?_)
      · have c5 := bI_0 c5
        refine lv_iconst (v := 0) hx hb dX6_makes_73 (by decide) ?_
        refine lv_istore_n (lv' := [(3, .int 0), (2, .int (nI (4 * i))), (0, .ref (q 0)), (1, .int (nI i))]) hx hb dX6_makes_74 rfl hl (by decide) rfl (fun ls hl => ?_)
        refine lv_iload_n hx hb dX6_makes_75 rfl (lv_at hl 0 rfl) ?_
        refine lv_if_eq (tgt := 116) hx hb dX6_makes_76 (by decide) (fun c6 => ?_) (fun c6 => absurd (by decide) c6)
        refine lv_iconst (v := 0) hx hb dX6_makes_116 (by decide) ?_
        refine lv_istore (lv' := [(4, .int 0), (3, .int 0), (2, .int (nI (4 * i))), (0, .ref (q 0)), (1, .int (nI i))]) hx hb dX6_makes_117 hl (by decide) rfl (fun ls hl => ?_)
        refine lv_iload_n hx hb dX6_makes_119 rfl (lv_at hl 1 rfl) ?_
        exact z_zret hx hb hr hlocks hP hD hK hS (congrArg (fun z_ => moW cI q z_ hi tx pa ke mr hs wr) ((if_neg (fun q_ => c5 ⟨fun e_ => nI_neq (by omega) (by omega) hgt e_, q_.2.2.1.1, q_.2.2.1.2, q_.2.2.2⟩)).symm)) (congrArg (fun b_ => some (Value.int b_)) ((bI_f (fun q_ => c5 ⟨fun e_ => nI_neq (by omega) (by omega) hgt e_, q_.2.2.1.1, q_.2.2.1.2, q_.2.2.2⟩)).symm)) rfl dX6_makes_120
      · have c5 := bI_1 c5
        refine lv_iconst (v := 1) hx hb dX6_makes_69 (by decide) ?_
        refine lv_goto (tgt := 74) hx hb dX6_makes_70 (by decide) ?_
        refine lv_istore_n (lv' := [(3, .int 1), (2, .int (nI (4 * i))), (0, .ref (q 0)), (1, .int (nI i))]) hx hb dX6_makes_74 rfl hl (by decide) rfl (fun ls hl => ?_)
        refine lv_iload_n hx hb dX6_makes_75 rfl (lv_at hl 0 rfl) ?_
        refine lv_if_eq (tgt := 116) hx hb dX6_makes_76 (by decide) (fun c7 => absurd c7 (by decide)) (fun c7 => ?_)
        refine lv_aload_n hx hb dX6_makes_79 rfl (lv_at hl 2 rfl) ?_
        refine lv_aload_n hx hb dX6_makes_80 rfl (lv_at hl 2 rfl) ?_
        refine va_get (v := .ref (q 4)) hx hb hts inTX6 hown hK hP (0) (mo_0) rfl 6 (by decide) (hts _ qf_X6_19) (fun _ h9 => h9) (rfl) dX6_makes_81 ?_
        refine lv_iload_n hx hb dX6_makes_84 rfl (lv_at hl 1 rfl) ?_
        refine va_iald hx hb hK hP (4) 0 (mo_4) rfl (vp_in_nI (show 4 * i < 40 by omega) (by omega)) dX6_makes_85 ?_
        refine z_top (v2 := .int (nI g)) (congrArg Value.int ((congrArg pa (z_cl (k := (4 * i)) rfl)).trans (e0))) ?_
        refine lv_aload_n hx hb dX6_makes_86 rfl (lv_at hl 2 rfl) ?_
        refine va_get (v := .ref (q 4)) hx hb hts inTX6 hown hK hP (0) (mo_0) rfl 6 (by decide) (hts _ qf_X6_19) (fun _ h9 => h9) (rfl) dX6_makes_87 ?_
        refine lv_iload_n hx hb dX6_makes_90 rfl (lv_at hl 1 rfl) ?_
        refine lv_iconst (v := 1) hx hb dX6_makes_91 (by decide) ?_
        refine lv_iadd hx hb dX6_makes_92  ?_
        refine z_top (v2 := .int (nI (4 * i + 1))) (congrArg Value.int (nI_add (4 * i) 1)) ?_
        refine va_iald hx hb hK hP (4) 0 (mo_4) rfl (vp_in_nI (show 4 * i + 1 < 40 by omega) (by omega)) dX6_makes_93 ?_
        refine z_top (v2 := .int (nI t)) (congrArg Value.int ((congrArg pa (z_cl (k := (4 * i + 1)) rfl)).trans (e1))) ?_
        refine lv_aload_n hx hb dX6_makes_94 rfl (lv_at hl 2 rfl) ?_
        refine va_get (v := .ref (q 4)) hx hb hts inTX6 hown hK hP (0) (mo_0) rfl 6 (by decide) (hts _ qf_X6_19) (fun _ h9 => h9) (rfl) dX6_makes_95 ?_
        refine lv_iload_n hx hb dX6_makes_98 rfl (lv_at hl 1 rfl) ?_
        refine lv_iconst (v := 2) hx hb dX6_makes_99 (by decide) ?_
        refine lv_iadd hx hb dX6_makes_100  ?_
        refine z_top (v2 := .int (nI (4 * i + 2))) (congrArg Value.int (nI_add (4 * i) 2)) ?_
        refine va_iald hx hb hK hP (4) 0 (mo_4) rfl (vp_in_nI (show 4 * i + 2 < 40 by omega) (by omega)) dX6_makes_101 ?_
        refine z_top (v2 := .int (nI k)) (congrArg Value.int ((congrArg pa (z_cl (k := (4 * i + 2)) rfl)).trans (e2))) ?_
        refine lv_aload_n hx hb dX6_makes_102 rfl (lv_at hl 2 rfl) ?_
        refine va_get (v := .ref (q 4)) hx hb hts inTX6 hown hK hP (0) (mo_0) rfl 6 (by decide) (hts _ qf_X6_19) (fun _ h9 => h9) (rfl) dX6_makes_103 ?_
        refine lv_iload_n hx hb dX6_makes_106 rfl (lv_at hl 1 rfl) ?_
        refine lv_iconst (v := 3) hx hb dX6_makes_107 (by decide) ?_
        refine lv_iadd hx hb dX6_makes_108  ?_
        refine z_top (v2 := .int (nI (4 * i + 3))) (congrArg Value.int (nI_add (4 * i) 3)) ?_
        refine va_iald hx hb hK hP (4) 0 (mo_4) rfl (vp_in_nI (show 4 * i + 3 < 40 by omega) (by omega)) dX6_makes_109 ?_
        refine z_top (v2 := .int (pa (4 * i + 3))) (congrArg Value.int (congrArg pa (z_cl (k := (4 * i + 3)) rfl))) ?_
        refine z_callV1 (rest := []) S (c_X6_deals g t k (show g < 8 by omega) (show t < 8 by omega) (by first | assumption | omega) (show k < 5 by omega) (pa (4 * i + 3))) qm_X6_95 v_X6_deals ⟨Nat.le_of_ble_eq_true rfl, Nat.le_of_ble_eq_true rfl⟩ rfl rfl hN hK hP hD hS hA (0) (mo_0) rfl rfl hl.1 rfl (Nat.le_of_ble_eq_true rfl) dX6_makes_110 ⟨Nat.le_of_ble_eq_true rfl, Nat.le_of_ble_eq_true rfl⟩ (fun H locs hP hD hS => ?_)
        refine lv_goto (tgt := 117) hx hb dX6_makes_113 (by decide) ?_
        refine lv_istore (lv' := [(4, .int (valP (z (25 + 16 * g + k)) (pa (4 * i + 3)))), (3, .int 1), (2, .int (nI (4 * i))), (0, .ref (q 0)), (1, .int (nI i))]) hx hb dX6_makes_117 hl (by decide) rfl (fun ls hl => ?_)
        refine lv_iload_n hx hb dX6_makes_119 rfl (lv_at hl 1 rfl) ?_
        exact z_zret hx hb hr hlocks hP hD hK hS (congrArg (fun z_ => moW cI q z_ hi tx pa ke mr hs wr) ((if_pos ⟨c1, c3, ⟨c5.2.1, c5.2.2.1⟩, c5.2.2.2⟩).symm)) (congrArg (fun b_ => some (Value.int b_)) ((bI_t ⟨c1, c3, ⟨c5.2.1, c5.2.2.1⟩, c5.2.2.2⟩).symm)) rfl dX6_makes_120
end XB
