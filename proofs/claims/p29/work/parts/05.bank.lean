/-! The state of a bank: ONE row z of numbers, in the order of the reference's own row (settings 0..4, came 5, common 6, forgiven 7, week 8, deals 9, debtor 10, motion minutes 11, member j's numbers from 14+16j on: there, balance, loan, idle, busy, given, taken, earned, paid, decayed, forgiven, five practices); a member's ballot stands at 142+j. A bank in the heap: nineteen cells at the addresses ad 0 .. ad 18. -/
def mfs (ad : Nat → Nat) (z : Nat → Int32) (j : Nat) : List Value := [.ref (ad (11 + j)), .int (z (14 + 16 * j)), .int (z (14 + 16 * j + 4)), .int (z (14 + 16 * j + 1)), .int (z (14 + 16 * j + 2)), .int (z (14 + 16 * j + 3)), .int (z (14 + 16 * j + 5)), .int (z (14 + 16 * j + 6)), .int (z (14 + 16 * j + 7)), .int (z (14 + 16 * j + 8)), .int (z (14 + 16 * j + 9)), .int (z (14 + 16 * j + 10)), .int (z (142 + j))]
def bfs (ad : Nat → Nat) (z : Nat → Int32) : List Value := [.ref (ad 1), .ref (ad 2), .int (z 5), .int (z 6), .int (z 7), .int (z 8), .int (z 9), .int (z 10), .int (z 11)]
def sfn (z : Nat → Int32) : Nat → Int32 := fun k => if k < 5 then z k else 0
def pfn (z : Nat → Int32) (j : Nat) : Nat → Int32 := fun k => if k < 5 then z (25 + 16 * j + k) else 0
def bkM (ad : Nat → Nat) (z : Nat → Int32) (j : Nat) : Nat × va_E := (ad (3 + j), .inr (4, mfs ad z j))
def bkP (cI : ClassId) (ad : Nat → Nat) (z : Nat → Int32) (j : Nat) : Nat × va_E := (ad (11 + j), .inl (cI, 5, .inl (pfn z j)))
def bkL (c0 c1 c2 : Nat × va_E) (f g : Nat → Nat × va_E) (wr : va_W) : va_W := c0 :: c1 :: c2 :: f 0 :: f 1 :: f 2 :: f 3 :: f 4 :: f 5 :: f 6 :: f 7 :: g 0 :: g 1 :: g 2 :: g 3 :: g 4 :: g 5 :: g 6 :: g 7 :: wr
/-- a bank, and the rest of the world behind it -/
def bkW (cI cM : ClassId) (ad : Nat → Nat) (z : Nat → Int32) (wr : va_W) : va_W := bkL (ad 0, .inr (0, bfs ad z)) (ad 1, .inl (cM, 8, .inr (.inr (.inr (.inr (fun i => some (ad (3 + i)))))))) (ad 2, .inl (cI, 5, .inl (sfn z))) (bkM ad z) (bkP cI ad z) wr
section BK
variable {cI cM : ClassId} {ad : Nat → Nat} {z z2 : Nat → Int32} {wr : va_W} {j k : Nat}
theorem lt8 {P : Nat → Prop} (h0 : P 0) (h1 : P 1) (h2 : P 2) (h3 : P 3) (h4 : P 4) (h5 : P 5) (h6 : P 6) (h7 : P 7) {j : Nat} (hj : j < 8) : P j := by
  match j, hj with
  | 0, _ => exact h0
  | 1, _ => exact h1
  | 2, _ => exact h2
  | 3, _ => exact h3
  | 4, _ => exact h4
  | 5, _ => exact h5
  | 6, _ => exact h6
  | 7, _ => exact h7
theorem bk_0 : (bkW cI cM ad z wr)[0]? = some (ad 0, .inr (0, bfs ad z)) := rfl
theorem bk_1 : (bkW cI cM ad z wr)[1]? = some (ad 1, .inl (cM, 8, .inr (.inr (.inr (.inr (fun i => some (ad (3 + i)))))))) := rfl
theorem bk_2 : (bkW cI cM ad z wr)[2]? = some (ad 2, .inl (cI, 5, .inl (sfn z))) := rfl
theorem bk_m (hj : j < 8) : (bkW cI cM ad z wr)[3 + j]? = some (ad (3 + j), .inr (4, mfs ad z j)) :=
  lt8 (P := fun j => (bkW cI cM ad z wr)[3 + j]? = some (ad (3 + j), .inr (4, mfs ad z j))) rfl rfl rfl rfl rfl rfl rfl rfl hj
theorem bk_p (hj : j < 8) : (bkW cI cM ad z wr)[11 + j]? = some (ad (11 + j), .inl (cI, 5, .inl (pfn z j))) :=
  lt8 (P := fun j => (bkW cI cM ad z wr)[11 + j]? = some (ad (11 + j), .inl (cI, 5, .inl (pfn z j)))) rfl rfl rfl rfl rfl rfl rfl rfl hj
theorem bk_r : (bkW cI cM ad z wr)[19 + k]? = wr[k]? := by
  rw [show 19 + k = k + 1 + 1 + 1 + 1 + 1 + 1 + 1 + 1 + 1 + 1 + 1 + 1 + 1 + 1 + 1 + 1 + 1 + 1 + 1 by omega]
  simp only [bkW, bkL, List.getElem?_cons_succ]
theorem bkL_congr {c0 c1 c2 d0 d1 d2 : Nat × va_E} {f g f2 g2 : Nat → Nat × va_E} (h0 : c0 = d0) (h1 : c1 = d1) (h2 : c2 = d2) (hf : ∀ i, i < 8 → f i = f2 i) (hg : ∀ i, i < 8 → g i = g2 i) : bkL c0 c1 c2 f g wr = bkL d0 d1 d2 f2 g2 wr := by
  subst h0; subst h1; subst h2
  simp only [bkL]
  rw [hf 0 (by omega), hf 1 (by omega), hf 2 (by omega), hf 3 (by omega), hf 4 (by omega), hf 5 (by omega), hf 6 (by omega), hf 7 (by omega), hg 0 (by omega), hg 1 (by omega), hg 2 (by omega), hg 3 (by omega), hg 4 (by omega), hg 5 (by omega), hg 6 (by omega), hg 7 (by omega)]
theorem bkL_setm {c0 c1 c2 x : Nat × va_E} {f g : Nat → Nat × va_E} (hj : j < 8) : (bkL c0 c1 c2 f g wr).set (3 + j) x = bkL c0 c1 c2 (fun i => if i = j then x else f i) g wr :=
  lt8 (P := fun j => (bkL c0 c1 c2 f g wr).set (3 + j) x = bkL c0 c1 c2 (fun i => if i = j then x else f i) g wr) rfl rfl rfl rfl rfl rfl rfl rfl hj
theorem bkL_setp {c0 c1 c2 x : Nat × va_E} {f g : Nat → Nat × va_E} (hj : j < 8) : (bkL c0 c1 c2 f g wr).set (11 + j) x = bkL c0 c1 c2 f (fun i => if i = j then x else g i) wr :=
  lt8 (P := fun j => (bkL c0 c1 c2 f g wr).set (11 + j) x = bkL c0 c1 c2 f (fun i => if i = j then x else g i) wr) rfl rfl rfl rfl rfl rfl rfl rfl hj
theorem bfs_congr (h : ∀ k, 5 ≤ k → k < 12 → z k = z2 k) : bfs ad z = bfs ad z2 := by
  simp only [bfs, h 5 (by omega) (by omega), h 6 (by omega) (by omega), h 7 (by omega) (by omega), h 8 (by omega) (by omega), h 9 (by omega) (by omega), h 10 (by omega) (by omega), h 11 (by omega) (by omega)]
theorem sfn_congr (h : ∀ k, k < 5 → z k = z2 k) : sfn z = sfn z2 := by
  funext k
  simp only [sfn]
  split
  · exact h k (by assumption)
  · rfl
theorem pfn_congr (h : ∀ k, k < 5 → z (25 + 16 * j + k) = z2 (25 + 16 * j + k)) : pfn z j = pfn z2 j := by
  funext k
  simp only [pfn]
  split
  · exact h k (by assumption)
  · rfl
theorem mfs_congr (h : ∀ k, k < 11 → z (14 + 16 * j + k) = z2 (14 + 16 * j + k)) (hb : z (142 + j) = z2 (142 + j)) : mfs ad z j = mfs ad z2 j := by
  have h0 : z (14 + 16 * j) = z2 (14 + 16 * j) := h 0 (by omega)
  simp only [mfs, h0, hb, h 1 (by omega), h 2 (by omega), h 3 (by omega), h 4 (by omega), h 5 (by omega), h 6 (by omega), h 7 (by omega), h 8 (by omega), h 9 (by omega), h 10 (by omega)]
/-- a bank reads its row at 0..11, 14..141 and 142..149 alone -/
theorem bkW_congr (h : ∀ k, k < 150 → k ≠ 12 → k ≠ 13 → z k = z2 k) : bkW cI cM ad z wr = bkW cI cM ad z2 wr := by
  refine bkL_congr ?_ rfl ?_ (fun i hi => ?_) (fun i hi => ?_)
  · rw [bfs_congr (z2 := z2) (fun k h1 h2 => h k (by omega) (by omega) (by omega))]
  · rw [sfn_congr (z2 := z2) (fun k h1 => h k (by omega) (by omega) (by omega))]
  · simp only [bkM]
    rw [mfs_congr (z2 := z2) (fun k h1 => h _ (by omega) (by omega) (by omega)) (h _ (by omega) (by omega) (by omega))]
  · simp only [bkP]
    rw [pfn_congr (z2 := z2) (fun k h1 => h _ (by omega) (by omega) (by omega))]
theorem upd_eq {f : Nat → Int32} {a b : Nat} {x : Int32} (h : b = a) : upd f a x b = x := by subst h; exact if_pos rfl
theorem upd_ne {f : Nat → Int32} {a b : Nat} {x : Int32} (h : b ≠ a) : upd f a x b = f b := if_neg h
/-- a bank's own number -/
theorem bk_w0 {i : Nat} {v : Int32} (fs : List Value) (hi : 5 ≤ i) (hi2 : i < 12) (hfs : fs = bfs ad (upd z i v)) : (bkW cI cM ad z wr).set 0 (ad 0, .inr (0, fs)) = bkW cI cM ad (upd z i v) wr := by
  subst hfs
  refine bkL_congr rfl rfl ?_ (fun q hq => ?_) (fun q hq => ?_)
  · rw [sfn_congr (z2 := upd z i v) (fun k h1 => (upd_ne (by omega)).symm)]
  · simp only [bkM]
    rw [mfs_congr (z2 := upd z i v) (fun k h1 => (upd_ne (by omega)).symm) (upd_ne (by omega)).symm]
  · simp only [bkP]
    rw [pfn_congr (z2 := upd z i v) (fun k h1 => (upd_ne (by omega)).symm)]
/-- a setting -/
theorem bk_w2 {i : Nat} {v : Int32} (hi : i < 5) : (bkW cI cM ad z wr).set 2 (ad 2, .inl (cI, 5, .inl (upd (sfn z) i v))) = bkW cI cM ad (upd z i v) wr := by
  refine bkL_congr ?_ rfl ?_ (fun q hq => ?_) (fun q hq => ?_)
  · rw [bfs_congr (z2 := upd z i v) (fun k h1 h2 => (upd_ne (by omega)).symm)]
  · have e : upd (sfn z) i v = sfn (upd z i v) := by
      funext k
      simp only [sfn, upd]
      by_cases hk : k = i
      · subst hk; rw [if_pos rfl, if_pos hi, if_pos rfl]
      · rw [if_neg hk, if_neg hk]
    rw [e]
  · simp only [bkM]
    rw [mfs_congr (z2 := upd z i v) (fun k h1 => (upd_ne (by omega)).symm) (upd_ne (by omega)).symm]
  · simp only [bkP]
    rw [pfn_congr (z2 := upd z i v) (fun k h1 => (upd_ne (by omega)).symm)]
/-- a member's number, below the practices, or the ballot -/
theorem bk_wm {i : Nat} {v : Int32} (fs : List Value) (hj : j < 8) (hi : (14 + 16 * j ≤ i ∧ i < 25 + 16 * j) ∨ i = 142 + j) (hfs : fs = mfs ad (upd z i v) j) : (bkW cI cM ad z wr).set (3 + j) (ad (3 + j), .inr (4, fs)) = bkW cI cM ad (upd z i v) wr := by
  subst hfs
  rw [bkW, bkL_setm hj]
  refine bkL_congr ?_ rfl ?_ (fun q hq => ?_) (fun q hq => ?_)
  · rw [bfs_congr (z2 := upd z i v) (fun k h1 h2 => (upd_ne (by omega)).symm)]
  · rw [sfn_congr (z2 := upd z i v) (fun k h1 => (upd_ne (by omega)).symm)]
  · by_cases e : q = j
    · subst e; rw [if_pos rfl]; rfl
    · rw [if_neg e]
      simp only [bkM]
      rw [mfs_congr (z2 := upd z i v) (fun k h1 => (upd_ne (by omega)).symm) (upd_ne (by omega)).symm]
  · simp only [bkP]
    rw [pfn_congr (z2 := upd z i v) (fun k h1 => (upd_ne (by omega)).symm)]
/-- a practice -/
theorem bk_wp {i : Nat} {v : Int32} (hj : j < 8) (hi : i < 5) : (bkW cI cM ad z wr).set (11 + j) (ad (11 + j), .inl (cI, 5, .inl (upd (pfn z j) i v))) = bkW cI cM ad (upd z (25 + 16 * j + i) v) wr := by
  rw [bkW, bkL_setp hj]
  refine bkL_congr ?_ rfl ?_ (fun q hq => ?_) (fun q hq => ?_)
  · rw [bfs_congr (z2 := upd z (25 + 16 * j + i) v) (fun k h1 h2 => (upd_ne (by omega)).symm)]
  · rw [sfn_congr (z2 := upd z (25 + 16 * j + i) v) (fun k h1 => (upd_ne (by omega)).symm)]
  · simp only [bkM]
    rw [mfs_congr (z2 := upd z (25 + 16 * j + i) v) (fun k h1 => (upd_ne (by omega)).symm) (upd_ne (by omega)).symm]
  · by_cases e : q = j
    · subst e
      rw [if_pos rfl]
      have e2 : upd (pfn z q) i v = pfn (upd z (25 + 16 * q + i) v) q := by
        funext k
        simp only [pfn, upd]
        by_cases hk : k = i
        · subst hk; rw [if_pos rfl, if_pos hi, if_pos rfl]
        · rw [if_neg hk, if_neg (show ¬ (25 + 16 * q + k = 25 + 16 * q + i) by omega)]
      rw [e2]; rfl
    · rw [if_neg e]
      simp only [bkP]
      rw [pfn_congr (z2 := upd z (25 + 16 * j + i) v) (fun k h1 => (upd_ne (by omega)).symm)]
theorem sfn_at {i : Int32} (hi : i = nI k) (hk : k < 5) : sfn z i.toNatClampNeg = z k := by
  rw [hi, nI_clamp (by omega)]; exact if_pos hk
theorem pfn_at {i : Int32} (hi : i = nI k) (hk : k < 5) : pfn z j i.toNatClampNeg = z (25 + 16 * j + k) := by
  rw [hi, nI_clamp (by omega)]; exact if_pos hk
end BK
