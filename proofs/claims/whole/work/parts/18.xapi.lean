/-! What the face answers. -/
abbrev mP (x : Int32) (n : Nat) : Prop := ¬ (x < 0) ∧ x < nI n
abbrev sP (x : Int32) : Prop := ¬ (x < 0) ∧ ¬ (4 < x)
abbrev cl (x : Int32) : Nat := x.toNatClampNeg
theorem mem_nat {n : Nat} (hn : n ≤ 8) {x : Int32} (h : ¬ (x < 0) ∧ x < nI n) : ∃ j : Nat, j < n ∧ x = nI j := by
  obtain ⟨j, hj, rfl⟩ := nI_of h.1
  exact ⟨j, (nI_ltI hj (by omega)).mp h.2, rfl⟩
theorem skl_nat {x : Int32} (h : ¬ (x < 0) ∧ ¬ (4 < x)) : ∃ j : Nat, j < 5 ∧ x = nI j := by
  obtain ⟨j, hj, rfl⟩ := nI_of h.1
  refine ⟨j, ?_, rfl⟩
  rcases Nat.lt_or_ge j 5 with q | q
  · exact q
  · exact absurd ((nI_ltI (a := 4) (b := j) (by omega) hj).mpr (by omega)) h.2
theorem w50_nat {x : Int32} (h : ¬ (x < 1) ∧ ¬ (50 < x)) : ∃ j : Nat, j < 51 ∧ x = nI j := by
  have h0 : ¬ x < 0 := fun q => h.1 (Int32.lt_trans q (by decide))
  obtain ⟨j, hj, rfl⟩ := nI_of h0
  refine ⟨j, ?_, rfl⟩
  rcases Nat.lt_or_ge j 51 with q | q
  · exact q
  · exact absurd ((nI_ltI (a := 50) (b := j) (by omega) hj).mpr (by omega)) h.2
theorem w100_nat {x : Int32} (h : ¬ (x < 0) ∧ ¬ (100 < x)) : ∃ j : Nat, j < 101 ∧ x = nI j := by
  obtain ⟨j, hj, rfl⟩ := nI_of h.1
  refine ⟨j, ?_, rfl⟩
  rcases Nat.lt_or_ge j 101 with q | q
  · exact q
  · exact absurd ((nI_ltI (a := 100) (b := j) (by omega) hj).mpr (by omega)) h.2
theorem c126_nat {x : Int32} (h : ¬ (x < 33) ∧ ¬ (126 < x)) : ∃ j : Nat, j < 127 ∧ x = nI j := by
  have h0 : ¬ x < 0 := fun q => h.1 (Int32.lt_trans q (by decide))
  obtain ⟨j, hj, rfl⟩ := nI_of h0
  refine ⟨j, ?_, rfl⟩
  rcases Nat.lt_or_ge j 127 with q | q
  · exact q
  · exact absurd ((nI_ltI (a := 126) (b := j) (by omega) hj).mpr (by omega)) h.2
theorem z_k0 {K : Int32} (k : Int32) (h : K = k) (hk : ¬ k = 0) : ¬ K = 0 := fun q => hk (h.symm.trans q)
theorem z_kE {K : Int32} {E1 E2 E3 E : String} (k : Int32) (h : K = k) (hk : xo E1 E2 E3 k = some E) : xo E1 E2 E3 K = some E := by rw [h]; exact hk
def kJoin (n : Nat) : Int32 := if nI n < 8 then 0 else 1
def kLeave (z : Nat → Int32) (n : Nat) (mb : Int32) : Int32 := if mP mb n then (if z (14 + 16 * cl mb) = 0 then 2 else if z (14 + 16 * cl mb + 1) < 0 then 2 else 0) else 1
def kGive (z : Nat → Int32) (n : Nat) (ga ta sk mn : Int32) : Int32 := if mP ga n then (if mP ta n then (if sP sk then (if ga = ta then 2 else if inP mn 1 600 then (if alwP z n (cl ga) (cl ta) (cl sk) mn then 0 else 3) else 2) else 1) else 1) else 1
def kDonate (z : Nat → Int32) (n : Nat) (mb mn : Int32) : Int32 := if mP mb n then (if inP mn 1 999 then (if z (14 + 16 * cl mb) = 0 then 3 else if z (14 + 16 * cl mb + 1) < mn then 3 else 0) else 2) else 1
def kPass (z : Nat → Int32) (wk : Int32) : Int32 := if inP wk 1 50 then (if 2000 < z 8 + wk then 2 else 0) else 1
def wkI (z : Nat → Int32) (n : Nat) : Nat → Nat → Int32
  | 0 => z
  | i + 1 => wkZ (wkI z n i) n
def wkS (z : Nat → Int32) (n : Nat) : Nat → Int32
  | 0 => 0
  | i + 1 => wkS z n i + wkR (wkI z n i) n
theorem wkZ_at {z : Nat → Int32} {n q : Nat} (h : q < 14) (h6 : q ≠ 6) (h8 : q ≠ 8) : wkZ z n q = z q := (ewkZ_at _ h h6).trans (upd_ne h8)
theorem wkI_at {z : Nat → Int32} {n : Nat} (i : Nat) {q : Nat} (h : q < 14) (h6 : q ≠ 6) (h8 : q ≠ 8) : wkI z n i q = z q := by
  induction i with
  | zero => rfl
  | succ i ih => exact (wkZ_at h h6 h8).trans ih
def kSet (st v : Int32) : Int32 := if sP st then (if inP v 0 (gsA (cl st)) then 0 else 2) else 1
def kMove (z : Nat → Int32) (n : Nat) (mb mn : Int32) : Int32 := if mP mb n then (if mn < 1 then 2 else if alwM z (cl mb) mn then 0 else 3) else 1
def kVote (z : Nat → Int32) (n : Nat) (mb : Int32) : Int32 := if mP mb n then (if cvP z (cl mb) then 0 else 2) else 1
def kTake (z : Nat → Int32) : Int32 := if z 10 = -1 then 1 else 0
def kAppend (nb : Nat) (cd : Int32) : Int32 := if inP cd 33 126 then (if nI nb < 60 then 0 else 2) else 1
def kRun (sg r : Nat → Int32) (nb : Nat) : Int32 := if nI (feN sg (rstR r) 0 nb) = nI nb ∧ whP (feR sg (rstR r) 0 nb) then 0 else 1
def kUndo (kp : Nat) : Int32 := if nI kp < 1 then 1 else 0
def kMember (n : Nat) (mb x : Int32) : Int32 := if mP mb n then (if inP x 0 11 then 0 else 2) else 1
def kSkill (n : Nat) (mb sk x : Int32) : Int32 := if mP mb n then (if sP sk then (if inP x 0 1 then 0 else 2) else 1) else 1
def kCount (x : Int32) : Int32 := if inP x 0 13 then 0 else 1
def kSetting (x : Int32) : Int32 := if sP x then 0 else 1
def kWorth (n : Nat) (mb sk mn : Int32) : Int32 := if mP mb n then (if sP sk then (if inP mn 1 600 then 0 else 2) else 1) else 1
def kLongest (n : Nat) (ga ta sk : Int32) : Int32 := if mP ga n then (if mP ta n then (if sP sk then 0 else 1) else 1) else 1
def kDecay (n : Nat) (mb wk : Int32) : Int32 := if mP mb n then (if inP wk 0 100 then 0 else 2) else 1
def kRipest (sk : Int32) : Int32 := if sP sk then 0 else 1
def numP (z : Nat → Int32) (n kp : Nat) (x : Int32) : Int32 := if x = 0 then nI n else if x = 1 then cntT z n else if x = 2 then z 6 else if x = 3 then z 7 else if x = 4 then z 8 else if x = 5 then z 9 else if x = 6 then sumC z n else if x = 7 then sumD z n else if x = 8 then sumF z 2 n else if x = 9 then z 10 else if x = 10 then z 11 else if x = 11 then cntB z 1 n else if x = 12 then cntB z 2 n else nI kp
theorem z_cases12 (x : Int32) : x = 0 ∨ x = 1 ∨ x = 2 ∨ x = 3 ∨ x = 4 ∨ x = 5 ∨ x = 6 ∨ x = 7 ∨ x = 8 ∨ x = 9 ∨ x = 10 ∨ x = 11 ∨ x = 12 ∨ (x.toInt < 0 ∨ 12 < x.toInt) := by
  by_cases h : x.toInt < 0 ∨ 12 < x.toInt
  · simp [h]
  · have h1 : ∃ k : Nat, k ≤ 12 ∧ x = nI k := by
      refine ⟨x.toInt.toNat, by omega, ?_⟩
      apply Int32.toInt_inj.mp
      rw [nI_toInt (by omega)]; omega
    obtain ⟨k, hk, rfl⟩ := h1
    have : k = 0 ∨ k = 1 ∨ k = 2 ∨ k = 3 ∨ k = 4 ∨ k = 5 ∨ k = 6 ∨ k = 7 ∨ k = 8 ∨ k = 9 ∨ k = 10 ∨ k = 11 ∨ k = 12 := by omega
    rcases this with rfl | rfl | rfl | rfl | rfl | rfl | rfl | rfl | rfl | rfl | rfl | rfl | rfl <;> decide
theorem z_out12 {x : Int32} (h : x.toInt < 0 ∨ 12 < x.toInt) : ¬ x = 0 ∧ ¬ x = 1 ∧ ¬ x = 2 ∧ ¬ x = 3 ∧ ¬ x = 4 ∧ ¬ x = 5 ∧ ¬ x = 6 ∧ ¬ x = 7 ∧ ¬ x = 8 ∧ ¬ x = 9 ∧ ¬ x = 10 ∧ ¬ x = 11 ∧ ¬ x = 12 := by
  refine ⟨?_, ?_, ?_, ?_, ?_, ?_, ?_, ?_, ?_, ?_, ?_, ?_, ?_⟩ <;> (intro q; rw [q] at h; revert h; decide)
theorem chr_nI {q : Nat} (h : q < 65536) : ((nI q).toUInt32 % 65536).toInt32 = nI q := by
  rw [pk_char, pk_tn (by omega), Nat.mod_eq_of_lt h]
theorem chr_nar {q : Nat} (h : q < 65536) : vp_nar .char (nI q) = nI q := by
  unfold vp_nar
  rw [(pk_charN h).1]
theorem tkV_0 {r : Nat → Int32} {x : Int32} (h : r 0 = 0) : tkV r x = bI (inP (x - 97) 0 7) := by unfold tkV; rw [if_pos h]
theorem tkR_0 {r : Nat → Int32} {x : Int32} (h : r 0 = 0) : tkR r x = if inP (x - 97) 0 7 then upd (upd r 1 (x - 97)) 0 1 else r := by unfold tkR; rw [if_pos h]
theorem tkV_1 {r : Nat → Int32} {x : Int32} (h : r 0 = 1) : tkV r x = bI (x = 62) := by unfold tkV; rw [if_neg (by rw [h]; decide), if_pos h]
theorem tkR_1 {r : Nat → Int32} {x : Int32} (h : r 0 = 1) : tkR r x = if x = 62 then upd r 0 (r 0 + 1) else r := by unfold tkR; rw [if_neg (by rw [h]; decide), if_pos h]
theorem tkV_2 {r : Nat → Int32} {x : Int32} (h : r 0 = 2) : tkV r x = bI (inP (x - 97) 0 7 ∧ ¬ (x - 97 = r 1)) := by unfold tkV; rw [if_neg (by rw [h]; decide), if_neg (by rw [h]; decide), if_pos h]
theorem tkR_2 {r : Nat → Int32} {x : Int32} (h : r 0 = 2) : tkR r x = if inP (x - 97) 0 7 ∧ ¬ (x - 97 = r 1) then upd (upd r 2 (x - 97)) 0 3 else r := by unfold tkR; rw [if_neg (by rw [h]; decide), if_neg (by rw [h]; decide), if_pos h]
theorem tkV_3 {r : Nat → Int32} {x : Int32} (h : r 0 = 3) : tkV r x = bI (inP (x - 48) 0 4) := by unfold tkV; rw [if_neg (by rw [h]; decide), if_neg (by rw [h]; decide), if_neg (by rw [h]; decide), if_pos h]
theorem tkR_3 {r : Nat → Int32} {x : Int32} (h : r 0 = 3) : tkR r x = if inP (x - 48) 0 4 then upd (upd r 3 (x - 48)) 0 4 else r := by unfold tkR; rw [if_neg (by rw [h]; decide), if_neg (by rw [h]; decide), if_neg (by rw [h]; decide), if_pos h]
theorem tkV_4 {r : Nat → Int32} {x : Int32} (h : r 0 = 4) : tkV r x = bI (x = 58) := by unfold tkV; rw [if_neg (by rw [h]; decide), if_neg (by rw [h]; decide), if_neg (by rw [h]; decide), if_neg (by rw [h]; decide), if_pos h]
theorem tkR_4 {r : Nat → Int32} {x : Int32} (h : r 0 = 4) : tkR r x = if x = 58 then upd r 0 (r 0 + 1) else r := by unfold tkR; rw [if_neg (by rw [h]; decide), if_neg (by rw [h]; decide), if_neg (by rw [h]; decide), if_neg (by rw [h]; decide), if_pos h]
theorem tkV_5 {r : Nat → Int32} {x : Int32} (h : r 0 = 5) : tkV r x = if x = 59 then bI (whP r) else bI (inP (x - 48) 0 9 ∧ inP (r 4 * 10 + (x - 48)) 1 600) := by unfold tkV; rw [if_neg (by rw [h]; decide), if_neg (by rw [h]; decide), if_neg (by rw [h]; decide), if_neg (by rw [h]; decide), if_neg (by rw [h]; decide)]
theorem tkR_5 {r : Nat → Int32} {x : Int32} (h : r 0 = 5) : tkR r x = if x = 59 then (if whP r then rstR r else r) else (if inP (x - 48) 0 9 ∧ inP (r 4 * 10 + (x - 48)) 1 600 then upd r 4 (r 4 * 10 + (x - 48)) else r) := by unfold tkR; rw [if_neg (by rw [h]; decide), if_neg (by rw [h]; decide), if_neg (by rw [h]; decide), if_neg (by rw [h]; decide), if_neg (by rw [h]; decide)]
theorem m07_nat {y : Int32} (h : inP y 0 7) : ∃ g, g < 8 ∧ y = nI g := by
  obtain ⟨j, hj, rfl⟩ := nI_of h.1
  refine ⟨j, ?_, rfl⟩
  rcases Nat.lt_or_ge j 8 with q | q
  · exact q
  · exact absurd ((nI_ltI (a := 7) (b := j) (by omega) hj).mpr (by omega)) h.2
def gdR (a : Nat → Int32) : Prop := ∃ d : Nat, d ≤ 5 ∧ a 0 = nI d ∧ (1 ≤ d → ∃ g, g < 8 ∧ a 1 = nI g) ∧ (3 ≤ d → ∃ g t, g < 8 ∧ t < 8 ∧ g ≠ t ∧ a 1 = nI g ∧ a 2 = nI t) ∧ (4 ≤ d → rdOK a)
theorem rdOK_congr {a b : Nat → Int32} (h1 : b 1 = a 1) (h2 : b 2 = a 2) (h3 : b 3 = a 3) (h : rdOK a) : rdOK b := by
  obtain ⟨g, t, k, hg, ht, hgt, hk, e1, e2, e3⟩ := h
  exact ⟨g, t, k, hg, ht, hgt, hk, h1.trans e1, h2.trans e2, h3.trans e3⟩
theorem gdR_s {a : Nat → Int32} {x : Int32} (h : gdR a) (c : ¬ tkV a x = 0) : gdR (tkR a x) := by
  obtain ⟨d, hd, h0, p1, p3, p4⟩ := h
  have : d = 0 ∨ d = 1 ∨ d = 2 ∨ d = 3 ∨ d = 4 ∨ d = 5 := by omega
  rcases this with rfl | rfl | rfl | rfl | rfl | rfl
  · rw [tkV_0 h0] at c
    have c1 := bI_1 c
    rw [tkR_0 h0, if_pos c1]
    obtain ⟨g, hg, eg⟩ := m07_nat c1
    exact ⟨1, by decide, upd_eq rfl, fun _ => ⟨g, hg, (upd_ne (by decide)).trans ((upd_eq rfl).trans eg)⟩, fun q => absurd q (by decide), fun q => absurd q (by decide)⟩
  · rw [tkV_1 h0] at c
    rw [tkR_1 h0, if_pos (bI_1 c)]
    obtain ⟨g, hg, eg⟩ := p1 (by decide)
    exact ⟨2, by decide, (upd_eq rfl).trans (by rw [h0]; rfl), fun _ => ⟨g, hg, (upd_ne (by decide)).trans eg⟩, fun q => absurd q (by decide), fun q => absurd q (by decide)⟩
  · rw [tkV_2 h0] at c
    have c1 := bI_1 c
    rw [tkR_2 h0, if_pos c1]
    obtain ⟨g, hg, eg⟩ := p1 (by decide)
    obtain ⟨t, ht, et⟩ := m07_nat c1.1
    have hne : g ≠ t := fun q => c1.2 (by rw [et, eg, q])
    exact ⟨3, by decide, upd_eq rfl, fun _ => ⟨g, hg, (upd_ne (by decide)).trans ((upd_ne (by decide)).trans eg)⟩, fun _ => ⟨g, t, hg, ht, hne, (upd_ne (by decide)).trans ((upd_ne (by decide)).trans eg), (upd_ne (by decide)).trans ((upd_eq rfl).trans et)⟩, fun q => absurd q (by decide)⟩
  · rw [tkV_3 h0] at c
    have c1 := bI_1 c
    rw [tkR_3 h0, if_pos c1]
    obtain ⟨g, t, hg, ht, hgt, eg, et⟩ := p3 (by decide)
    obtain ⟨k, hk, ek⟩ := skl_nat c1
    have e1 : upd (upd a 3 (x - 48)) 0 4 1 = nI g := (upd_ne (by decide)).trans ((upd_ne (by decide)).trans eg)
    have e2 : upd (upd a 3 (x - 48)) 0 4 2 = nI t := (upd_ne (by decide)).trans ((upd_ne (by decide)).trans et)
    have e3 : upd (upd a 3 (x - 48)) 0 4 3 = nI k := (upd_ne (by decide)).trans ((upd_eq rfl).trans ek)
    exact ⟨4, by decide, upd_eq rfl, fun _ => ⟨g, hg, e1⟩, fun _ => ⟨g, t, hg, ht, hgt, e1, e2⟩, fun _ => ⟨g, t, k, hg, ht, hgt, hk, e1, e2, e3⟩⟩
  · rw [tkV_4 h0] at c
    rw [tkR_4 h0, if_pos (bI_1 c)]
    obtain ⟨g, hg, eg⟩ := p1 (by decide)
    obtain ⟨g2, t2, hg2, ht2, hgt2, eg2, et2⟩ := p3 (by decide)
    exact ⟨5, by decide, (upd_eq rfl).trans (by rw [h0]; rfl), fun _ => ⟨g, hg, (upd_ne (by decide)).trans eg⟩, fun _ => ⟨g2, t2, hg2, ht2, hgt2, (upd_ne (by decide)).trans eg2, (upd_ne (by decide)).trans et2⟩, fun _ => rdOK_congr (upd_ne (by decide)) (upd_ne (by decide)) (upd_ne (by decide)) (p4 (by decide))⟩
  · rw [tkV_5 h0] at c
    rw [tkR_5 h0]
    by_cases hx : x = 59
    · rw [if_pos hx] at c ⊢
      rw [if_pos (bI_1 c)]
      exact ⟨0, by decide, (upd_ne (by decide)).trans (upd_eq rfl), fun q => absurd q (by decide), fun q => absurd q (by decide), fun q => absurd q (by decide)⟩
    · rw [if_neg hx] at c ⊢
      rw [if_pos (bI_1 c)]
      obtain ⟨g, hg, eg⟩ := p1 (by decide)
      obtain ⟨g2, t2, hg2, ht2, hgt2, eg2, et2⟩ := p3 (by decide)
      exact ⟨5, by decide, (upd_ne (by decide)).trans h0, fun _ => ⟨g, hg, (upd_ne (by decide)).trans eg⟩, fun _ => ⟨g2, t2, hg2, ht2, hgt2, (upd_ne (by decide)).trans eg2, (upd_ne (by decide)).trans et2⟩, fun _ => rdOK_congr (upd_ne (by decide)) (upd_ne (by decide)) (upd_ne (by decide)) (p4 (by decide))⟩

theorem rst_0 {r : Nat → Int32} : rstR r 0 = 0 := (upd_ne (by decide)).trans (upd_eq rfl)
theorem rst_4 {r : Nat → Int32} : rstR r 4 = 0 := upd_eq rfl
def smR (a b : Nat → Int32) : Prop := ∃ d : Nat, d ≤ 5 ∧ a 0 = nI d ∧ b 0 = nI d ∧ a 4 = b 4 ∧ (1 ≤ d → a 1 = b 1)
theorem smR_s {a b : Nat → Int32} {x : Int32} (h : smR a b) : tkV a x = tkV b x ∧ (¬ tkV a x = 0 → smR (tkR a x) (tkR b x)) := by
  obtain ⟨d, hd, h0, k0, h4, p1⟩ := h
  have : d = 0 ∨ d = 1 ∨ d = 2 ∨ d = 3 ∨ d = 4 ∨ d = 5 := by omega
  rcases this with rfl | rfl | rfl | rfl | rfl | rfl
  · rw [tkV_0 h0, tkV_0 k0]
    refine ⟨rfl, fun c => ?_⟩
    rw [tkR_0 h0, tkR_0 k0, if_pos (bI_1 c), if_pos (bI_1 c)]
    exact ⟨1, by decide, upd_eq rfl, upd_eq rfl, (upd_ne (by decide)).trans ((upd_ne (by decide)).trans (h4.trans ((upd_ne (by decide)).trans (upd_ne (by decide))).symm)), fun _ => ((upd_ne (by decide)).trans (upd_eq rfl)).trans ((upd_ne (by decide)).trans (upd_eq rfl)).symm⟩
  · rw [tkV_1 h0, tkV_1 k0]
    refine ⟨rfl, fun c => ?_⟩
    rw [tkR_1 h0, tkR_1 k0, if_pos (bI_1 c), if_pos (bI_1 c)]
    exact ⟨2, by decide, (upd_eq rfl).trans (by rw [h0]; rfl), (upd_eq rfl).trans (by rw [k0]; rfl), (upd_ne (by decide)).trans (h4.trans (upd_ne (by decide)).symm), fun _ => (upd_ne (by decide)).trans ((p1 (by decide)).trans (upd_ne (by decide)).symm)⟩
  · rw [tkV_2 h0, tkV_2 k0, p1 (by decide)]
    refine ⟨rfl, fun c => ?_⟩
    rw [tkR_2 h0, tkR_2 k0, p1 (by decide), if_pos (bI_1 c), if_pos (bI_1 c)]
    exact ⟨3, by decide, upd_eq rfl, upd_eq rfl, (upd_ne (by decide)).trans ((upd_ne (by decide)).trans (h4.trans ((upd_ne (by decide)).trans (upd_ne (by decide))).symm)), fun _ => (upd_ne (by decide)).trans ((upd_ne (by decide)).trans ((p1 (by decide)).trans ((upd_ne (by decide)).trans (upd_ne (by decide))).symm))⟩
  · rw [tkV_3 h0, tkV_3 k0]
    refine ⟨rfl, fun c => ?_⟩
    rw [tkR_3 h0, tkR_3 k0, if_pos (bI_1 c), if_pos (bI_1 c)]
    exact ⟨4, by decide, upd_eq rfl, upd_eq rfl, (upd_ne (by decide)).trans ((upd_ne (by decide)).trans (h4.trans ((upd_ne (by decide)).trans (upd_ne (by decide))).symm)), fun _ => (upd_ne (by decide)).trans ((upd_ne (by decide)).trans ((p1 (by decide)).trans ((upd_ne (by decide)).trans (upd_ne (by decide))).symm))⟩
  · rw [tkV_4 h0, tkV_4 k0]
    refine ⟨rfl, fun c => ?_⟩
    rw [tkR_4 h0, tkR_4 k0, if_pos (bI_1 c), if_pos (bI_1 c)]
    exact ⟨5, by decide, (upd_eq rfl).trans (by rw [h0]; rfl), (upd_eq rfl).trans (by rw [k0]; rfl), (upd_ne (by decide)).trans (h4.trans (upd_ne (by decide)).symm), fun _ => (upd_ne (by decide)).trans ((p1 (by decide)).trans (upd_ne (by decide)).symm)⟩
  · have hw : whP a = whP b := by unfold whP; rw [h0, k0, h4]
    have e : tkV a x = tkV b x := by
      rw [tkV_5 h0, tkV_5 k0]
      by_cases hx : x = 59
      · rw [if_pos hx, if_pos hx]; exact bI_iff (by rw [hw])
      · rw [if_neg hx, if_neg hx]; exact bI_iff (by rw [h4])
    refine ⟨e, fun c => ?_⟩
    rw [tkV_5 h0] at c
    rw [tkR_5 h0, tkR_5 k0]
    by_cases hx : x = 59
    · rw [if_pos hx] at c
      rw [if_pos hx, if_pos hx, if_pos (bI_1 c), if_pos (hw ▸ bI_1 c)]
      exact ⟨0, by decide, rst_0, rst_0, rst_4.trans rst_4.symm, fun q => absurd q (by decide)⟩
    · rw [if_neg hx] at c
      have c2 : inP (x - 48) 0 9 ∧ inP (b 4 * 10 + (x - 48)) 1 600 := by rw [← h4]; exact bI_1 c
      rw [if_neg hx, if_neg hx, if_pos (bI_1 c), if_pos c2]
      exact ⟨5, by decide, (upd_ne (by decide)).trans h0, (upd_ne (by decide)).trans k0, (upd_eq rfl).trans ((by rw [h4] : a 4 * 10 + (x - 48) = b 4 * 10 + (x - 48)).trans (upd_eq rfl).symm), fun _ => (upd_ne (by decide)).trans ((p1 (by decide)).trans (upd_ne (by decide)).symm)⟩
theorem fe_acc {sg r : Nat → Int32} : ∀ (m i : Nat), feN sg (frR sg r i) i m = i + m → (∀ j, i ≤ j → j < i + m → ¬ tkV (frR sg r j) (sg j) = 0) ∧ feR sg (frR sg r i) i m = frR sg r (i + m)
  | 0, i, _ => ⟨fun j h1 h2 => by omega, rfl⟩
  | m + 1, i, h => by
    rw [feN] at h
    by_cases c : tkV (frR sg r i) (sg i) = 0
    · rw [if_pos c] at h; omega
    · rw [if_neg c] at h
      obtain ⟨a, b⟩ := fe_acc (sg := sg) (r := r) m (i + 1) (h.trans (by omega))
      refine ⟨fun j h1 h2 => ?_, ?_⟩
      · rcases Nat.lt_or_ge i j with q | q
        · exact a j (by omega) (by omega)
        · have e : j = i := by omega
          rw [e]; exact c
      · rw [feR, if_neg c, show i + (m + 1) = i + 1 + m by omega]; exact b
theorem semi_5 {a : Nat → Int32} (h : gdR a) (c : ¬ tkV a 59 = 0) : a 0 = 5 := by
  obtain ⟨d, hd, h0, p1, p3, p4⟩ := h
  have : d = 0 ∨ d = 1 ∨ d = 2 ∨ d = 3 ∨ d = 4 ∨ d = 5 := by omega
  rcases this with rfl | rfl | rfl | rfl | rfl | rfl
  · rw [tkV_0 h0] at c; exact absurd (bI_1 c) (by decide)
  · rw [tkV_1 h0] at c; exact absurd (bI_1 c) (by decide)
  · rw [tkV_2 h0] at c; exact absurd (bI_1 c).1 (by decide)
  · rw [tkV_3 h0] at c; exact absurd (bI_1 c) (by decide)
  · rw [tkV_4 h0] at c; exact absurd (bI_1 c) (by decide)
  · exact h0
theorem gd_ok {a : Nat → Int32} (h : gdR a) (h5 : a 0 = 5) : rdOK a := by
  obtain ⟨d, hd, h0, p1, p3, p4⟩ := h
  refine p4 ?_
  have : d = 0 ∨ d = 1 ∨ d = 2 ∨ d = 3 ∨ d = 4 ∨ d = 5 := by omega
  rcases this with rfl | rfl | rfl | rfl | rfl | rfl
  · rw [h0] at h5; exact absurd h5 (by decide)
  · rw [h0] at h5; exact absurd h5 (by decide)
  · rw [h0] at h5; exact absurd h5 (by decide)
  · rw [h0] at h5; exact absurd h5 (by decide)
  · omega
  · omega
theorem whole_rows {sg r : Nat → Int32} {N : Nat} (hN : N ≤ 60) (h : nI (feN sg (rstR r) 0 N) = nI N ∧ whP (feR sg (rstR r) 0 N)) : ∀ i : Nat, i < N + 1 → mdC sg N i → rdOK (fq sg (feR sg (rstR r) 0 N) N i) := by
  obtain ⟨h1, h2, h3⟩ := h
  have hl := feN_le sg N (rstR r) 0
  have e : feN sg (frR sg r 0) 0 N = 0 + N := by
    show feN sg (rstR r) 0 N = 0 + N
    have q := congrArg Int32.toInt h1
    rw [nI_toInt (by omega), nI_toInt (by omega)] at q
    omega
  obtain ⟨ha, hb⟩ := fe_acc N 0 e
  have hb2 : feR sg (rstR r) 0 N = frR sg r N := hb.trans (by rw [Nat.zero_add])
  generalize hR : feR sg (rstR r) 0 N = R at *
  have sim : ∀ i, i ≤ N → smR (frR sg r i) (frR sg R i) := by
    intro i
    induction i with
    | zero => intro _; exact ⟨0, by decide, rst_0, rst_0, rst_4.trans rst_4.symm, fun q => absurd q (by decide)⟩
    | succ i ih => intro hi; exact (smR_s (ih (by omega))).2 (ha i (by omega) (by omega))
  have acc : ∀ i, i < N → ¬ tkV (frR sg R i) (sg i) = 0 := fun i hi => (smR_s (sim i (by omega))).1 ▸ ha i (by omega) (by omega)
  have gd : ∀ i, i ≤ N → gdR (frR sg R i) := by
    intro i
    induction i with
    | zero => intro _; exact ⟨0, by decide, rst_0, fun q => absurd q (by decide), fun q => absurd q (by decide), fun q => absurd q (by decide)⟩
    | succ i ih => intro hi; exact gdR_s (ih (by omega)) (acc i (by omega))
  intro i hi hm
  unfold fq
  rw [show min i N = i by omega]
  refine gd_ok (gd i (by omega)) ?_
  rcases Nat.lt_or_ge i N with q | q
  · rcases hm with hm | hm
    · have q2 := congrArg Int32.toInt hm
      rw [nI_toInt (by omega), nI_toInt (by omega)] at q2
      omega
    · have a := acc i q
      rw [hm] at a
      exact semi_5 (gd i (by omega)) a
  · have e2 : i = N := by omega
    subst e2
    obtain ⟨d, hd, k1, k2, k4, kp⟩ := sim i (Nat.le_refl _)
    rw [k2, ← k1, ← hb2]
    exact h2

section XB
variable {l : Launch} {D : va_G} {cI cC cM cB cJ : ClassId} {ad ad2 : Nat → Nat} {z z2 : Nat → Int32} {wr : va_W} {t h : Nat → Nat} {ah : Nat → Nat → Nat} {zh : Nat → Nat → Int32} {x : Nat} {sg : Nat → Int32} {r : Nat → Int32} {sz : Int32}
set_option maxHeartbeats 4000000 in
set_option maxRecDepth 100000 in
theorem c_X5_join (hfl : l.stackTraces = false) {n : Nat} (hn : n ≤ 8) (hz : z 5 = nI n) {nx kp : Nat} (hnx : nx < 6) (hkp : kp ≤ 6) (hB : hBool z) : zX l D (zT cI cC cM cB cJ) yX5_join cX5_join 1 (some .int) ({ frames := 6, cells := 1, slots := 6, locals := 90 } : Room) [.ref x] (bkW cI cM ad z (txW cC t sg sz r (xoW x ad h t (hsW cB h ah (nI nx) (nI kp) (hbW cI cM ah zh wr))))) (bkW cI cM ad (admZ z n) (txW cC t sg sz r (xoW x ad h t (hsW cB h ah (nI ((nx + 1) % 6)) (nI (min (kp + 1) 6)) (hbW cI cM ah (zup zh nx z) wr))))) (bkW cI cM ad z (txW cC t sg sz r (xoW x ad h t (hsW cB h ah (nI nx) (nI kp) (hbW cI cM ah zh wr))))) (some (.int (nI n))) "java/lang/IllegalStateException" "" "" (kJoin n) 1 6 := by
  refine z_enterX (by decide) (Nat.le_of_ble_eq_true rfl) ?_
  intro p e s m below meth c A S hr hlocks hX hJ hN hA hK hP hD hS ls hl
  obtain ⟨hx, hb, hml, hown, hts⟩ := id S
  have hl : lv_has ls 1 [(0, .ref x)] := hl
  have hP : va_P D vwCl (bkW cI cM ad z (txW cC t sg sz r (xoW x ad h t (hsW cB h ah (nI nx) (nI kp) (hbW cI cM ah zh wr))))) s.heap := hP
  have hD : va_D A (bkW cI cM ad z (txW cC t sg sz r (xoW x ad h t (hsW cB h ah (nI nx) (nI kp) (hbW cI cM ah zh wr))))) := hD
  refine lv_aload_n hx hb dX5_join_0 rfl (lv_at hl 0 rfl) ?_
  refine va_get (v := .ref (ad 0)) hx hb hts inTX5 hown hK hP (19 + (3 + (0))) ((bk_r).trans ((tx_r).trans (xo_0))) rfl 0 (by decide) (hts _ qf_X5_10) (fun _ h9 => h9) (rfl) dX5_join_1 ?_
  refine va_get (v := .int (nI n)) hx hb hts inTX0 hown hK hP (0) (bk_0) rfl 2 (by decide) (hts _ qf_X5_30) (fun _ h9 => h9) (congrArg (fun x => some (Value.int x)) (hz)) dX5_join_4 ?_
  refine lv_bipush (v := 8) hx hb dX5_join_7 (by decide) ?_
  refine lv_icmp_lt (tgt := 22) hx hb dX5_join_9 (by decide) (fun c1 => ?_) (fun c1 => ?_)
  · skip
    refine lv_aload_n hx hb dX5_join_22 rfl (lv_at hl 0 rfl) ?_
    have hn8 : n < 8 := (nI_ltI (a := n) (b := 8) (by omega) (by omega)).mp c1
    refine va_get (v := .ref (h 0)) hx hb hts inTX5 hown hK hP (19 + (3 + (0))) ((bk_r).trans ((tx_r).trans (xo_0))) rfl 1 (by decide) (hts _ qf_X5_19) (fun _ h9 => h9) (rfl) dX5_join_23 ?_
    refine lv_aload_n hx hb dX5_join_26 rfl (lv_at hl 0 rfl) ?_
    refine va_get (v := .ref (ad 0)) hx hb hts inTX5 hown hK hP (19 + (3 + (0))) ((bk_r).trans ((tx_r).trans (xo_0))) rfl 0 (by decide) (hts _ qf_X5_10) (fun _ h9 => h9) (rfl) dX5_join_27 ?_
    refine z_callV0 (rest := []) S (c_X3_keep hnx hkp hB) qm_X5_41 v_X3_keep ⟨Nat.le_of_ble_eq_true rfl, Nat.le_of_ble_eq_true rfl⟩ rfl rfl hN hK hP hD hS hA (19 + (3 + (1 + (0)))) ((bk_r).trans ((tx_r).trans ((xo_r).trans (hs_0)))) rfl rfl hl.1 rfl (Nat.le_of_ble_eq_true rfl) dX5_join_30 ⟨Nat.le_of_ble_eq_true rfl, Nat.le_of_ble_eq_true rfl⟩ (fun H locs hP hD hS => ?_)
    refine lv_aload_n hx hb dX5_join_33 rfl (lv_at hl 0 rfl) ?_
    refine va_get (v := .ref (ad 0)) hx hb hts inTX5 hown hK hP (19 + (3 + (0))) ((bk_r).trans ((tx_r).trans (xo_0))) rfl 0 (by decide) (hts _ qf_X5_10) (fun _ h9 => h9) (rfl) dX5_join_34 ?_
    refine z_callV1 (rest := []) S (c_X0_admit (n := n) (by omega) (hz)) qm_X5_45 v_X0_admit ⟨Nat.le_of_ble_eq_true rfl, Nat.le_of_ble_eq_true rfl⟩ rfl rfl hN hK hP hD hS hA (0) (bk_0) rfl rfl hl.1 rfl (Nat.le_of_ble_eq_true rfl) dX5_join_37 ⟨Nat.le_of_ble_eq_true rfl, Nat.le_of_ble_eq_true rfl⟩ (fun H locs hP hD hS => ?_)
    refine W.widen (k := 1) (n := 6) (by decide) (by decide) ?_
    exact z_xiret hx hb hr hlocks hP hD hK hS (by first | (simp only [kJoin, mP, sP, inP, cl, alwP, alwM, cvP, whP, c1, not_true_eq_false, not_false_eq_true, and_self, and_true, true_and, and_false, false_and, or_true, true_or, or_false, false_or, if_true, if_false, ite_true, ite_false]; done) | (simp [kJoin, mP, sP, inP, cl, alwP, alwM, cvP, whP, c1]; done) | (simp_all [kJoin, mP, sP, inP, cl, alwP, alwM, cvP, whP]; done)) (rfl) (by first | rfl | (simp only [minP, maxP, c1, not_true_eq_false, not_false_eq_true, and_self, and_true, true_and, and_false, false_and, or_true, true_or, or_false, false_or, if_true, if_false, ite_true, ite_false]; done) | (simp [minP, maxP, c1]; done) | (simp_all [minP, maxP]; done)) dX5_join_40
  · skip
    refine z_throw (rest := []) (cls := "java/lang/IllegalStateException") (text := "8 members came so far") hfl S hlocks hX hJ hK hP hD hS (rfl) hl.1 (by decide) qk_X5_34 qn_IllegalStateException at_ISE_g (fun w h => zBadX_in.2.1 w (at_ISE_b w h)) at_ISE_t (by decide) (z_k0 (k := 1) (by first | (simp only [kJoin, mP, sP, inP, cl, alwP, alwM, cvP, whP, c1, not_true_eq_false, not_false_eq_true, and_self, and_true, true_and, and_false, false_and, or_true, true_or, or_false, false_or, if_true, if_false, ite_true, ite_false]; done) | (simp [kJoin, mP, sP, inP, cl, alwP, alwM, cvP, whP, c1]; done) | (simp_all [kJoin, mP, sP, inP, cl, alwP, alwM, cvP, whP]; done)) (by decide)) (z_kE (k := 1) (by first | (simp only [kJoin, mP, sP, inP, cl, alwP, alwM, cvP, whP, c1, not_true_eq_false, not_false_eq_true, and_self, and_true, true_and, and_false, false_and, or_true, true_or, or_false, false_or, if_true, if_false, ite_true, ite_false]; done) | (simp [kJoin, mP, sP, inP, cl, alwP, alwM, cvP, whP, c1]; done) | (simp_all [kJoin, mP, sP, inP, cl, alwP, alwM, cvP, whP]; done)) (by decide)) (by decide) (by decide) dX5_join_12 dX5_join_15 dX5_join_16 dX5_join_18 dX5_join_21 (by decide) (by decide)
set_option maxHeartbeats 4000000 in
set_option maxRecDepth 100000 in
theorem c_X5_leave_a (hfl : l.stackTraces = false) {n : Nat} (hn : n ≤ 8) (hz : z 5 = nI n) {nx kp : Nat} (hnx : nx < 6) (hkp : kp ≤ 6) (hB : hBool z) (hz2 : z 10 = -1) (mb : Int32) : zX l D (zT cI cC cM cB cJ) yX5_leave cX5_leave 2 (some .int) ({ frames := 6, cells := 1, slots := 6, locals := 90 } : Room) [.ref x, .int mb] (bkW cI cM ad z (txW cC t sg sz r (xoW x ad h t (hsW cB h ah (nI nx) (nI kp) (hbW cI cM ah zh wr))))) (bkW cI cM ad (outZ z (cl mb)) (txW cC t sg sz r (xoW x ad h t (hsW cB h ah (nI ((nx + 1) % 6)) (nI (min (kp + 1) 6)) (hbW cI cM ah (zup zh nx z) wr))))) (bkW cI cM ad z (txW cC t sg sz r (xoW x ad h t (hsW cB h ah (nI nx) (nI kp) (hbW cI cM ah zh wr))))) (some (.int (z (14 + 16 * cl mb + 1)))) "java/lang/IndexOutOfBoundsException" "java/lang/IllegalStateException" "" (kLeave z n mb) 1 6 := by
  refine z_enterX (by decide) (Nat.le_of_ble_eq_true rfl) ?_
  intro p e s m below meth c A S hr hlocks hX hJ hN hA hK hP hD hS ls hl
  obtain ⟨hx, hb, hml, hown, hts⟩ := id S
  have hl : lv_has ls 2 [(0, .ref x), (1, .int mb)] := hl
  have hP : va_P D vwCl (bkW cI cM ad z (txW cC t sg sz r (xoW x ad h t (hsW cB h ah (nI nx) (nI kp) (hbW cI cM ah zh wr))))) s.heap := hP
  have hD : va_D A (bkW cI cM ad z (txW cC t sg sz r (xoW x ad h t (hsW cB h ah (nI nx) (nI kp) (hbW cI cM ah zh wr))))) := hD
  refine lv_aload_n hx hb dX5_leave_0 rfl (lv_at hl 0 rfl) ?_
  refine va_get (v := .ref (ad 0)) hx hb hts inTX5 hown hK hP (19 + (3 + (0))) ((bk_r).trans ((tx_r).trans (xo_0))) rfl 0 (by decide) (hts _ qf_X5_10) (fun _ h9 => h9) (rfl) dX5_leave_1 ?_
  refine lv_iload_n hx hb dX5_leave_4 rfl (lv_at hl 1 rfl) ?_
  refine z_callV1 (rest := []) S (c_X0_isMember (n := n) (show n ≤ 8 by omega) (hz) mb) qm_X5_49 v_X0_isMember ⟨Nat.le_of_ble_eq_true rfl, Nat.le_of_ble_eq_true rfl⟩ rfl rfl hN hK hP hD hS hA (0) (bk_0) rfl rfl hl.1 rfl (Nat.le_of_ble_eq_true rfl) dX5_leave_5 ⟨Nat.le_of_ble_eq_true rfl, Nat.le_of_ble_eq_true rfl⟩ (fun H locs hP hD hS => ?_)
  refine lv_if_ne (tgt := 21) hx hb dX5_leave_8 (by decide) (fun c1 => ?_) (fun c1 => ?_)
  · have c1 := bI_1 c1
    obtain ⟨j, hj, rfl⟩ := mem_nat hn c1
    refine lv_aload_n hx hb dX5_leave_21 rfl (lv_at hl 0 rfl) ?_
    refine va_get (v := .ref (ad 0)) hx hb hts inTX5 hown hK hP (19 + (3 + (0))) ((bk_r).trans ((tx_r).trans (xo_0))) rfl 0 (by decide) (hts _ qf_X5_10) (fun _ h9 => h9) (rfl) dX5_leave_22 ?_
    refine va_get (v := .ref (ad 1)) hx hb hts inTX0 hown hK hP (0) (bk_0) rfl 0 (by decide) (hts _ qf_X5_58) (fun _ h9 => h9) (rfl) dX5_leave_25 ?_
    refine lv_iload_n hx hb dX5_leave_28 rfl (lv_at hl 1 rfl) ?_
    refine va_aldq hx hb hK hP (1) 2 (bk_1) rfl (vp_in_nI (show j < 8 by omega) (by omega)) dX5_leave_29 ?_
    refine z_top (v2 := .ref (ad (3 + j))) (z_rf rfl) ?_
    refine va_get (v := .int (z (14 + 16 * j))) hx hb hts inTX4 hown hK hP (3 + j) (bk_m (show j < 8 by omega)) rfl 1 (by decide) (hts _ qf_X5_62) (fun _ h9 => h9) (rfl) dX5_leave_30 ?_
    refine lv_if_eq (tgt := 51) hx hb dX5_leave_33 (by decide) (fun c2 => ?_) (fun c2 => ?_)
    · skip
      refine z_throw (rest := []) (cls := "java/lang/IllegalStateException") (text := "the member has left or has a debt") hfl S hlocks hX hJ hK hP hD hS (rfl) hl.1 (by decide) qk_X5_34 qn_IllegalStateException at_ISE_g (fun w h => zBadX_in.2.1 w (at_ISE_b w h)) at_ISE_t (by decide) (z_k0 (k := 2) (by first | (simp only [kLeave, mP, sP, inP, cl, alwP, alwM, cvP, whP, c1, nI_clamp (show j < 2 ^ 31 by omega), c2, not_true_eq_false, not_false_eq_true, and_self, and_true, true_and, and_false, false_and, or_true, true_or, or_false, false_or, if_true, if_false, ite_true, ite_false]; done) | (simp [kLeave, mP, sP, inP, cl, alwP, alwM, cvP, whP, c1, nI_clamp (show j < 2 ^ 31 by omega), c2]; done) | (simp_all [kLeave, mP, sP, inP, cl, alwP, alwM, cvP, whP]; done)) (by decide)) (z_kE (k := 2) (by first | (simp only [kLeave, mP, sP, inP, cl, alwP, alwM, cvP, whP, c1, nI_clamp (show j < 2 ^ 31 by omega), c2, not_true_eq_false, not_false_eq_true, and_self, and_true, true_and, and_false, false_and, or_true, true_or, or_false, false_or, if_true, if_false, ite_true, ite_false]; done) | (simp [kLeave, mP, sP, inP, cl, alwP, alwM, cvP, whP, c1, nI_clamp (show j < 2 ^ 31 by omega), c2]; done) | (simp_all [kLeave, mP, sP, inP, cl, alwP, alwM, cvP, whP]; done)) (by decide)) (by decide) (by decide) dX5_leave_51 dX5_leave_54 dX5_leave_55 dX5_leave_57 dX5_leave_60 (by decide) (by decide)
    · skip
      refine lv_aload_n hx hb dX5_leave_36 rfl (lv_at hl 0 rfl) ?_
      refine va_get (v := .ref (ad 0)) hx hb hts inTX5 hown hK hP (19 + (3 + (0))) ((bk_r).trans ((tx_r).trans (xo_0))) rfl 0 (by decide) (hts _ qf_X5_10) (fun _ h9 => h9) (rfl) dX5_leave_37 ?_
      refine va_get (v := .ref (ad 1)) hx hb hts inTX0 hown hK hP (0) (bk_0) rfl 0 (by decide) (hts _ qf_X5_58) (fun _ h9 => h9) (rfl) dX5_leave_40 ?_
      refine lv_iload_n hx hb dX5_leave_43 rfl (lv_at hl 1 rfl) ?_
      refine va_aldq hx hb hK hP (1) 2 (bk_1) rfl (vp_in_nI (show j < 8 by omega) (by omega)) dX5_leave_44 ?_
      refine z_top (v2 := .ref (ad (3 + j))) (z_rf rfl) ?_
      refine va_get (v := .int (z (14 + 16 * j + 1))) hx hb hts inTX4 hown hK hP (3 + j) (bk_m (show j < 8 by omega)) rfl 3 (by decide) (hts _ qf_X5_68) (fun _ h9 => h9) (rfl) dX5_leave_45 ?_
      refine lv_if_ge (tgt := 61) hx hb dX5_leave_48 (by decide) (fun c3 => ?_) (fun c3 => ?_)
      · have c3 := z_nlt c3
        refine lv_aload_n hx hb dX5_leave_61 rfl (lv_at hl 0 rfl) ?_
        refine va_get (v := .ref (h 0)) hx hb hts inTX5 hown hK hP (19 + (3 + (0))) ((bk_r).trans ((tx_r).trans (xo_0))) rfl 1 (by decide) (hts _ qf_X5_19) (fun _ h9 => h9) (rfl) dX5_leave_62 ?_
        refine lv_aload_n hx hb dX5_leave_65 rfl (lv_at hl 0 rfl) ?_
        refine va_get (v := .ref (ad 0)) hx hb hts inTX5 hown hK hP (19 + (3 + (0))) ((bk_r).trans ((tx_r).trans (xo_0))) rfl 0 (by decide) (hts _ qf_X5_10) (fun _ h9 => h9) (rfl) dX5_leave_66 ?_
        refine z_callV0 (rest := []) S (c_X3_keep hnx hkp hB) qm_X5_41 v_X3_keep ⟨Nat.le_of_ble_eq_true rfl, Nat.le_of_ble_eq_true rfl⟩ rfl rfl hN hK hP hD hS hA (19 + (3 + (1 + (0)))) ((bk_r).trans ((tx_r).trans ((xo_r).trans (hs_0)))) rfl rfl hl.1 rfl (Nat.le_of_ble_eq_true rfl) dX5_leave_69 ⟨Nat.le_of_ble_eq_true rfl, Nat.le_of_ble_eq_true rfl⟩ (fun H locs hP hD hS => ?_)
        refine lv_aload_n hx hb dX5_leave_72 rfl (lv_at hl 0 rfl) ?_
        refine va_get (v := .ref (ad 0)) hx hb hts inTX5 hown hK hP (19 + (3 + (0))) ((bk_r).trans ((tx_r).trans (xo_0))) rfl 0 (by decide) (hts _ qf_X5_10) (fun _ h9 => h9) (rfl) dX5_leave_73 ?_
        refine lv_iload_n hx hb dX5_leave_76 rfl (lv_at hl 1 rfl) ?_
        refine z_callV1 (rest := []) S (c_X0_dismiss_a (n := n) (show n ≤ 8 by omega) (hz) (show j < 8 by omega) (hz2)) qm_X5_73 v_X0_dismiss ⟨Nat.le_of_ble_eq_true rfl, Nat.le_of_ble_eq_true rfl⟩ rfl rfl hN hK hP hD hS hA (0) (bk_0) rfl rfl hl.1 rfl (Nat.le_of_ble_eq_true rfl) dX5_leave_77 ⟨Nat.le_of_ble_eq_true rfl, Nat.le_of_ble_eq_true rfl⟩ (fun H locs hP hD hS => ?_)
        refine W.widen (k := 1) (n := 6) (by decide) (by decide) ?_
        exact z_xiret hx hb hr hlocks hP hD hK hS (by first | (simp only [kLeave, mP, sP, inP, cl, alwP, alwM, cvP, whP, c1, nI_clamp (show j < 2 ^ 31 by omega), c2, c3, not_true_eq_false, not_false_eq_true, and_self, and_true, true_and, and_false, false_and, or_true, true_or, or_false, false_or, if_true, if_false, ite_true, ite_false]; done) | (simp [kLeave, mP, sP, inP, cl, alwP, alwM, cvP, whP, c1, nI_clamp (show j < 2 ^ 31 by omega), c2, c3]; done) | (simp_all [kLeave, mP, sP, inP, cl, alwP, alwM, cvP, whP]; done)) (by first | rfl | (simp only [minP, maxP, c1, nI_clamp (show j < 2 ^ 31 by omega), c2, c3, not_true_eq_false, not_false_eq_true, and_self, and_true, true_and, and_false, false_and, or_true, true_or, or_false, false_or, if_true, if_false, ite_true, ite_false]; done) | (simp [minP, maxP, c1, nI_clamp (show j < 2 ^ 31 by omega), c2, c3]; done) | (simp_all [minP, maxP]; done)) (by first | rfl | (simp only [minP, maxP, c1, nI_clamp (show j < 2 ^ 31 by omega), c2, c3, not_true_eq_false, not_false_eq_true, and_self, and_true, true_and, and_false, false_and, or_true, true_or, or_false, false_or, if_true, if_false, ite_true, ite_false]; done) | (simp [minP, maxP, c1, nI_clamp (show j < 2 ^ 31 by omega), c2, c3]; done) | (simp_all [minP, maxP]; done)) dX5_leave_80
      · have c3 := z_lt c3
        refine z_throw (rest := []) (cls := "java/lang/IllegalStateException") (text := "the member has left or has a debt") hfl S hlocks hX hJ hK hP hD hS (rfl) hl.1 (by decide) qk_X5_34 qn_IllegalStateException at_ISE_g (fun w h => zBadX_in.2.1 w (at_ISE_b w h)) at_ISE_t (by decide) (z_k0 (k := 2) (by first | (simp only [kLeave, mP, sP, inP, cl, alwP, alwM, cvP, whP, c1, nI_clamp (show j < 2 ^ 31 by omega), c2, c3, not_true_eq_false, not_false_eq_true, and_self, and_true, true_and, and_false, false_and, or_true, true_or, or_false, false_or, if_true, if_false, ite_true, ite_false]; done) | (simp [kLeave, mP, sP, inP, cl, alwP, alwM, cvP, whP, c1, nI_clamp (show j < 2 ^ 31 by omega), c2, c3]; done) | (simp_all [kLeave, mP, sP, inP, cl, alwP, alwM, cvP, whP]; done)) (by decide)) (z_kE (k := 2) (by first | (simp only [kLeave, mP, sP, inP, cl, alwP, alwM, cvP, whP, c1, nI_clamp (show j < 2 ^ 31 by omega), c2, c3, not_true_eq_false, not_false_eq_true, and_self, and_true, true_and, and_false, false_and, or_true, true_or, or_false, false_or, if_true, if_false, ite_true, ite_false]; done) | (simp [kLeave, mP, sP, inP, cl, alwP, alwM, cvP, whP, c1, nI_clamp (show j < 2 ^ 31 by omega), c2, c3]; done) | (simp_all [kLeave, mP, sP, inP, cl, alwP, alwM, cvP, whP]; done)) (by decide)) (by decide) (by decide) dX5_leave_51 dX5_leave_54 dX5_leave_55 dX5_leave_57 dX5_leave_60 (by decide) (by decide)
  · have c1 := bI_0 c1
    refine z_throw (rest := []) (cls := "java/lang/IndexOutOfBoundsException") (text := "no such member") hfl S hlocks hX hJ hK hP hD hS (rfl) hl.1 (by decide) qk_X5_53 qn_IndexOutOfBoundsException at_IOB_g (fun w h => zBadX_in.2.2 w (at_IOB_b w h)) at_IOB_t (by decide) (z_k0 (k := 1) (by first | (simp only [kLeave, mP, sP, inP, cl, alwP, alwM, cvP, whP, c1, not_true_eq_false, not_false_eq_true, and_self, and_true, true_and, and_false, false_and, or_true, true_or, or_false, false_or, if_true, if_false, ite_true, ite_false]; done) | (simp [kLeave, mP, sP, inP, cl, alwP, alwM, cvP, whP, c1]; done) | (simp_all [kLeave, mP, sP, inP, cl, alwP, alwM, cvP, whP]; done)) (by decide)) (z_kE (k := 1) (by first | (simp only [kLeave, mP, sP, inP, cl, alwP, alwM, cvP, whP, c1, not_true_eq_false, not_false_eq_true, and_self, and_true, true_and, and_false, false_and, or_true, true_or, or_false, false_or, if_true, if_false, ite_true, ite_false]; done) | (simp [kLeave, mP, sP, inP, cl, alwP, alwM, cvP, whP, c1]; done) | (simp_all [kLeave, mP, sP, inP, cl, alwP, alwM, cvP, whP]; done)) (by decide)) (by decide) (by decide) dX5_leave_11 dX5_leave_14 dX5_leave_15 dX5_leave_17 dX5_leave_20 (by decide) (by decide)
set_option maxHeartbeats 4000000 in
set_option maxRecDepth 100000 in
theorem c_X5_leave_b (hfl : l.stackTraces = false) {n : Nat} (hn : n ≤ 8) (hz : z 5 = nI n) {nx kp : Nat} (hnx : nx < 6) (hkp : kp ≤ 6) (hB : hBool z) {d : Nat} (hd : d < n) (hz2 : z 10 = nI d) (mb : Int32) : zX l D (zT cI cC cM cB cJ) yX5_leave cX5_leave 2 (some .int) ({ frames := 6, cells := 1, slots := 6, locals := 90 } : Room) [.ref x, .int mb] (bkW cI cM ad z (txW cC t sg sz r (xoW x ad h t (hsW cB h ah (nI nx) (nI kp) (hbW cI cM ah zh wr))))) (bkW cI cM ad (disZ z n (cl mb) d) (txW cC t sg sz r (xoW x ad h t (hsW cB h ah (nI ((nx + 1) % 6)) (nI (min (kp + 1) 6)) (hbW cI cM ah (zup zh nx z) wr))))) (bkW cI cM ad z (txW cC t sg sz r (xoW x ad h t (hsW cB h ah (nI nx) (nI kp) (hbW cI cM ah zh wr))))) (some (.int (z (14 + 16 * cl mb + 1)))) "java/lang/IndexOutOfBoundsException" "java/lang/IllegalStateException" "" (kLeave z n mb) 1 6 := by
  refine z_enterX (by decide) (Nat.le_of_ble_eq_true rfl) ?_
  intro p e s m below meth c A S hr hlocks hX hJ hN hA hK hP hD hS ls hl
  obtain ⟨hx, hb, hml, hown, hts⟩ := id S
  have hl : lv_has ls 2 [(0, .ref x), (1, .int mb)] := hl
  have hP : va_P D vwCl (bkW cI cM ad z (txW cC t sg sz r (xoW x ad h t (hsW cB h ah (nI nx) (nI kp) (hbW cI cM ah zh wr))))) s.heap := hP
  have hD : va_D A (bkW cI cM ad z (txW cC t sg sz r (xoW x ad h t (hsW cB h ah (nI nx) (nI kp) (hbW cI cM ah zh wr))))) := hD
  refine lv_aload_n hx hb dX5_leave_0 rfl (lv_at hl 0 rfl) ?_
  refine va_get (v := .ref (ad 0)) hx hb hts inTX5 hown hK hP (19 + (3 + (0))) ((bk_r).trans ((tx_r).trans (xo_0))) rfl 0 (by decide) (hts _ qf_X5_10) (fun _ h9 => h9) (rfl) dX5_leave_1 ?_
  refine lv_iload_n hx hb dX5_leave_4 rfl (lv_at hl 1 rfl) ?_
  refine z_callV1 (rest := []) S (c_X0_isMember (n := n) (show n ≤ 8 by omega) (hz) mb) qm_X5_49 v_X0_isMember ⟨Nat.le_of_ble_eq_true rfl, Nat.le_of_ble_eq_true rfl⟩ rfl rfl hN hK hP hD hS hA (0) (bk_0) rfl rfl hl.1 rfl (Nat.le_of_ble_eq_true rfl) dX5_leave_5 ⟨Nat.le_of_ble_eq_true rfl, Nat.le_of_ble_eq_true rfl⟩ (fun H locs hP hD hS => ?_)
  refine lv_if_ne (tgt := 21) hx hb dX5_leave_8 (by decide) (fun c1 => ?_) (fun c1 => ?_)
  · have c1 := bI_1 c1
    obtain ⟨j, hj, rfl⟩ := mem_nat hn c1
    refine lv_aload_n hx hb dX5_leave_21 rfl (lv_at hl 0 rfl) ?_
    refine va_get (v := .ref (ad 0)) hx hb hts inTX5 hown hK hP (19 + (3 + (0))) ((bk_r).trans ((tx_r).trans (xo_0))) rfl 0 (by decide) (hts _ qf_X5_10) (fun _ h9 => h9) (rfl) dX5_leave_22 ?_
    refine va_get (v := .ref (ad 1)) hx hb hts inTX0 hown hK hP (0) (bk_0) rfl 0 (by decide) (hts _ qf_X5_58) (fun _ h9 => h9) (rfl) dX5_leave_25 ?_
    refine lv_iload_n hx hb dX5_leave_28 rfl (lv_at hl 1 rfl) ?_
    refine va_aldq hx hb hK hP (1) 2 (bk_1) rfl (vp_in_nI (show j < 8 by omega) (by omega)) dX5_leave_29 ?_
    refine z_top (v2 := .ref (ad (3 + j))) (z_rf rfl) ?_
    refine va_get (v := .int (z (14 + 16 * j))) hx hb hts inTX4 hown hK hP (3 + j) (bk_m (show j < 8 by omega)) rfl 1 (by decide) (hts _ qf_X5_62) (fun _ h9 => h9) (rfl) dX5_leave_30 ?_
    refine lv_if_eq (tgt := 51) hx hb dX5_leave_33 (by decide) (fun c2 => ?_) (fun c2 => ?_)
    · skip
      refine z_throw (rest := []) (cls := "java/lang/IllegalStateException") (text := "the member has left or has a debt") hfl S hlocks hX hJ hK hP hD hS (rfl) hl.1 (by decide) qk_X5_34 qn_IllegalStateException at_ISE_g (fun w h => zBadX_in.2.1 w (at_ISE_b w h)) at_ISE_t (by decide) (z_k0 (k := 2) (by first | (simp only [kLeave, mP, sP, inP, cl, alwP, alwM, cvP, whP, c1, nI_clamp (show j < 2 ^ 31 by omega), c2, not_true_eq_false, not_false_eq_true, and_self, and_true, true_and, and_false, false_and, or_true, true_or, or_false, false_or, if_true, if_false, ite_true, ite_false]; done) | (simp [kLeave, mP, sP, inP, cl, alwP, alwM, cvP, whP, c1, nI_clamp (show j < 2 ^ 31 by omega), c2]; done) | (simp_all [kLeave, mP, sP, inP, cl, alwP, alwM, cvP, whP]; done)) (by decide)) (z_kE (k := 2) (by first | (simp only [kLeave, mP, sP, inP, cl, alwP, alwM, cvP, whP, c1, nI_clamp (show j < 2 ^ 31 by omega), c2, not_true_eq_false, not_false_eq_true, and_self, and_true, true_and, and_false, false_and, or_true, true_or, or_false, false_or, if_true, if_false, ite_true, ite_false]; done) | (simp [kLeave, mP, sP, inP, cl, alwP, alwM, cvP, whP, c1, nI_clamp (show j < 2 ^ 31 by omega), c2]; done) | (simp_all [kLeave, mP, sP, inP, cl, alwP, alwM, cvP, whP]; done)) (by decide)) (by decide) (by decide) dX5_leave_51 dX5_leave_54 dX5_leave_55 dX5_leave_57 dX5_leave_60 (by decide) (by decide)
    · skip
      refine lv_aload_n hx hb dX5_leave_36 rfl (lv_at hl 0 rfl) ?_
      refine va_get (v := .ref (ad 0)) hx hb hts inTX5 hown hK hP (19 + (3 + (0))) ((bk_r).trans ((tx_r).trans (xo_0))) rfl 0 (by decide) (hts _ qf_X5_10) (fun _ h9 => h9) (rfl) dX5_leave_37 ?_
      refine va_get (v := .ref (ad 1)) hx hb hts inTX0 hown hK hP (0) (bk_0) rfl 0 (by decide) (hts _ qf_X5_58) (fun _ h9 => h9) (rfl) dX5_leave_40 ?_
      refine lv_iload_n hx hb dX5_leave_43 rfl (lv_at hl 1 rfl) ?_
      refine va_aldq hx hb hK hP (1) 2 (bk_1) rfl (vp_in_nI (show j < 8 by omega) (by omega)) dX5_leave_44 ?_
      refine z_top (v2 := .ref (ad (3 + j))) (z_rf rfl) ?_
      refine va_get (v := .int (z (14 + 16 * j + 1))) hx hb hts inTX4 hown hK hP (3 + j) (bk_m (show j < 8 by omega)) rfl 3 (by decide) (hts _ qf_X5_68) (fun _ h9 => h9) (rfl) dX5_leave_45 ?_
      refine lv_if_ge (tgt := 61) hx hb dX5_leave_48 (by decide) (fun c3 => ?_) (fun c3 => ?_)
      · have c3 := z_nlt c3
        refine lv_aload_n hx hb dX5_leave_61 rfl (lv_at hl 0 rfl) ?_
        refine va_get (v := .ref (h 0)) hx hb hts inTX5 hown hK hP (19 + (3 + (0))) ((bk_r).trans ((tx_r).trans (xo_0))) rfl 1 (by decide) (hts _ qf_X5_19) (fun _ h9 => h9) (rfl) dX5_leave_62 ?_
        refine lv_aload_n hx hb dX5_leave_65 rfl (lv_at hl 0 rfl) ?_
        refine va_get (v := .ref (ad 0)) hx hb hts inTX5 hown hK hP (19 + (3 + (0))) ((bk_r).trans ((tx_r).trans (xo_0))) rfl 0 (by decide) (hts _ qf_X5_10) (fun _ h9 => h9) (rfl) dX5_leave_66 ?_
        refine z_callV0 (rest := []) S (c_X3_keep hnx hkp hB) qm_X5_41 v_X3_keep ⟨Nat.le_of_ble_eq_true rfl, Nat.le_of_ble_eq_true rfl⟩ rfl rfl hN hK hP hD hS hA (19 + (3 + (1 + (0)))) ((bk_r).trans ((tx_r).trans ((xo_r).trans (hs_0)))) rfl rfl hl.1 rfl (Nat.le_of_ble_eq_true rfl) dX5_leave_69 ⟨Nat.le_of_ble_eq_true rfl, Nat.le_of_ble_eq_true rfl⟩ (fun H locs hP hD hS => ?_)
        refine lv_aload_n hx hb dX5_leave_72 rfl (lv_at hl 0 rfl) ?_
        refine va_get (v := .ref (ad 0)) hx hb hts inTX5 hown hK hP (19 + (3 + (0))) ((bk_r).trans ((tx_r).trans (xo_0))) rfl 0 (by decide) (hts _ qf_X5_10) (fun _ h9 => h9) (rfl) dX5_leave_73 ?_
        refine lv_iload_n hx hb dX5_leave_76 rfl (lv_at hl 1 rfl) ?_
        refine z_callV1 (rest := []) S (c_X0_dismiss_b (n := n) (show n ≤ 8 by omega) (hz) (show j < 8 by omega) (d := d) (show d < n by omega) (hz2)) qm_X5_73 v_X0_dismiss ⟨Nat.le_of_ble_eq_true rfl, Nat.le_of_ble_eq_true rfl⟩ rfl rfl hN hK hP hD hS hA (0) (bk_0) rfl rfl hl.1 rfl (Nat.le_of_ble_eq_true rfl) dX5_leave_77 ⟨Nat.le_of_ble_eq_true rfl, Nat.le_of_ble_eq_true rfl⟩ (fun H locs hP hD hS => ?_)
        refine W.widen (k := 1) (n := 6) (by decide) (by decide) ?_
        exact z_xiret hx hb hr hlocks hP hD hK hS (by first | (simp only [kLeave, mP, sP, inP, cl, alwP, alwM, cvP, whP, c1, nI_clamp (show j < 2 ^ 31 by omega), c2, c3, not_true_eq_false, not_false_eq_true, and_self, and_true, true_and, and_false, false_and, or_true, true_or, or_false, false_or, if_true, if_false, ite_true, ite_false]; done) | (simp [kLeave, mP, sP, inP, cl, alwP, alwM, cvP, whP, c1, nI_clamp (show j < 2 ^ 31 by omega), c2, c3]; done) | (simp_all [kLeave, mP, sP, inP, cl, alwP, alwM, cvP, whP]; done)) (by first | rfl | (simp only [minP, maxP, c1, nI_clamp (show j < 2 ^ 31 by omega), c2, c3, not_true_eq_false, not_false_eq_true, and_self, and_true, true_and, and_false, false_and, or_true, true_or, or_false, false_or, if_true, if_false, ite_true, ite_false]; done) | (simp [minP, maxP, c1, nI_clamp (show j < 2 ^ 31 by omega), c2, c3]; done) | (simp_all [minP, maxP]; done)) (by first | rfl | (simp only [minP, maxP, c1, nI_clamp (show j < 2 ^ 31 by omega), c2, c3, not_true_eq_false, not_false_eq_true, and_self, and_true, true_and, and_false, false_and, or_true, true_or, or_false, false_or, if_true, if_false, ite_true, ite_false]; done) | (simp [minP, maxP, c1, nI_clamp (show j < 2 ^ 31 by omega), c2, c3]; done) | (simp_all [minP, maxP]; done)) dX5_leave_80
      · have c3 := z_lt c3
        refine z_throw (rest := []) (cls := "java/lang/IllegalStateException") (text := "the member has left or has a debt") hfl S hlocks hX hJ hK hP hD hS (rfl) hl.1 (by decide) qk_X5_34 qn_IllegalStateException at_ISE_g (fun w h => zBadX_in.2.1 w (at_ISE_b w h)) at_ISE_t (by decide) (z_k0 (k := 2) (by first | (simp only [kLeave, mP, sP, inP, cl, alwP, alwM, cvP, whP, c1, nI_clamp (show j < 2 ^ 31 by omega), c2, c3, not_true_eq_false, not_false_eq_true, and_self, and_true, true_and, and_false, false_and, or_true, true_or, or_false, false_or, if_true, if_false, ite_true, ite_false]; done) | (simp [kLeave, mP, sP, inP, cl, alwP, alwM, cvP, whP, c1, nI_clamp (show j < 2 ^ 31 by omega), c2, c3]; done) | (simp_all [kLeave, mP, sP, inP, cl, alwP, alwM, cvP, whP]; done)) (by decide)) (z_kE (k := 2) (by first | (simp only [kLeave, mP, sP, inP, cl, alwP, alwM, cvP, whP, c1, nI_clamp (show j < 2 ^ 31 by omega), c2, c3, not_true_eq_false, not_false_eq_true, and_self, and_true, true_and, and_false, false_and, or_true, true_or, or_false, false_or, if_true, if_false, ite_true, ite_false]; done) | (simp [kLeave, mP, sP, inP, cl, alwP, alwM, cvP, whP, c1, nI_clamp (show j < 2 ^ 31 by omega), c2, c3]; done) | (simp_all [kLeave, mP, sP, inP, cl, alwP, alwM, cvP, whP]; done)) (by decide)) (by decide) (by decide) dX5_leave_51 dX5_leave_54 dX5_leave_55 dX5_leave_57 dX5_leave_60 (by decide) (by decide)
  · have c1 := bI_0 c1
    refine z_throw (rest := []) (cls := "java/lang/IndexOutOfBoundsException") (text := "no such member") hfl S hlocks hX hJ hK hP hD hS (rfl) hl.1 (by decide) qk_X5_53 qn_IndexOutOfBoundsException at_IOB_g (fun w h => zBadX_in.2.2 w (at_IOB_b w h)) at_IOB_t (by decide) (z_k0 (k := 1) (by first | (simp only [kLeave, mP, sP, inP, cl, alwP, alwM, cvP, whP, c1, not_true_eq_false, not_false_eq_true, and_self, and_true, true_and, and_false, false_and, or_true, true_or, or_false, false_or, if_true, if_false, ite_true, ite_false]; done) | (simp [kLeave, mP, sP, inP, cl, alwP, alwM, cvP, whP, c1]; done) | (simp_all [kLeave, mP, sP, inP, cl, alwP, alwM, cvP, whP]; done)) (by decide)) (z_kE (k := 1) (by first | (simp only [kLeave, mP, sP, inP, cl, alwP, alwM, cvP, whP, c1, not_true_eq_false, not_false_eq_true, and_self, and_true, true_and, and_false, false_and, or_true, true_or, or_false, false_or, if_true, if_false, ite_true, ite_false]; done) | (simp [kLeave, mP, sP, inP, cl, alwP, alwM, cvP, whP, c1]; done) | (simp_all [kLeave, mP, sP, inP, cl, alwP, alwM, cvP, whP]; done)) (by decide)) (by decide) (by decide) dX5_leave_11 dX5_leave_14 dX5_leave_15 dX5_leave_17 dX5_leave_20 (by decide) (by decide)
set_option maxHeartbeats 4000000 in
set_option maxRecDepth 100000 in
theorem c_X5_give (hfl : l.stackTraces = false) {n : Nat} (hn : n ≤ 8) (hz : z 5 = nI n) {nx kp : Nat} (hnx : nx < 6) (hkp : kp ≤ 6) (hB : hBool z) (ga ta sk mn : Int32) : zX l D (zT cI cC cM cB cJ) yX5_give cX5_give 5 (some .int) ({ frames := 6, cells := 1, slots := 6, locals := 112 } : Room) [.ref x, .int ga, .int ta, .int sk, .int mn] (bkW cI cM ad z (txW cC t sg sz r (xoW x ad h t (hsW cB h ah (nI nx) (nI kp) (hbW cI cM ah zh wr))))) (bkW cI cM ad (dealZ z (cl ga) (cl ta) (cl sk) mn) (txW cC t sg sz r (xoW x ad h t (hsW cB h ah (nI ((nx + 1) % 6)) (nI (min (kp + 1) 6)) (hbW cI cM ah (zup zh nx z) wr))))) (bkW cI cM ad z (txW cC t sg sz r (xoW x ad h t (hsW cB h ah (nI nx) (nI kp) (hbW cI cM ah zh wr))))) (some (.int (valP (z (25 + 16 * cl ga + cl sk)) mn))) "java/lang/IndexOutOfBoundsException" "java/lang/IllegalArgumentException" "java/lang/IllegalStateException" (kGive z n ga ta sk mn) 1 6 := by
  refine z_enterX (by decide) (Nat.le_of_ble_eq_true rfl) ?_
  intro p e s m below meth c A S hr hlocks hX hJ hN hA hK hP hD hS ls hl
  obtain ⟨hx, hb, hml, hown, hts⟩ := id S
  have hl : lv_has ls 5 [(0, .ref x), (1, .int ga), (2, .int ta), (3, .int sk), (4, .int mn)] := hl
  have hP : va_P D vwCl (bkW cI cM ad z (txW cC t sg sz r (xoW x ad h t (hsW cB h ah (nI nx) (nI kp) (hbW cI cM ah zh wr))))) s.heap := hP
  have hD : va_D A (bkW cI cM ad z (txW cC t sg sz r (xoW x ad h t (hsW cB h ah (nI nx) (nI kp) (hbW cI cM ah zh wr))))) := hD
  refine lv_aload_n hx hb dX5_give_0 rfl (lv_at hl 0 rfl) ?_
  refine va_get (v := .ref (ad 0)) hx hb hts inTX5 hown hK hP (19 + (3 + (0))) ((bk_r).trans ((tx_r).trans (xo_0))) rfl 0 (by decide) (hts _ qf_X5_10) (fun _ h9 => h9) (rfl) dX5_give_1 ?_
  refine lv_iload_n hx hb dX5_give_4 rfl (lv_at hl 1 rfl) ?_
  refine z_callV1 (rest := []) S (c_X0_isMember (n := n) (show n ≤ 8 by omega) (hz) ga) qm_X5_49 v_X0_isMember ⟨Nat.le_of_ble_eq_true rfl, Nat.le_of_ble_eq_true rfl⟩ rfl rfl hN hK hP hD hS hA (0) (bk_0) rfl rfl hl.1 rfl (Nat.le_of_ble_eq_true rfl) dX5_give_5 ⟨Nat.le_of_ble_eq_true rfl, Nat.le_of_ble_eq_true rfl⟩ (fun H locs hP hD hS => ?_)
  refine lv_if_eq (tgt := 29) hx hb dX5_give_8 (by decide) (fun c1 => ?_) (fun c1 => ?_)
  · have c1 := bI_0 c1
    refine z_throw (rest := []) (cls := "java/lang/IndexOutOfBoundsException") (text := "no such member or skill") hfl S hlocks hX hJ hK hP hD hS (rfl) hl.1 (by decide) qk_X5_53 qn_IndexOutOfBoundsException at_IOB_g (fun w h => zBadX_in.2.2 w (at_IOB_b w h)) at_IOB_t (by decide) (z_k0 (k := 1) (by first | (simp only [kGive, mP, sP, inP, cl, alwP, alwM, cvP, whP, c1, not_true_eq_false, not_false_eq_true, and_self, and_true, true_and, and_false, false_and, or_true, true_or, or_false, false_or, if_true, if_false, ite_true, ite_false]; done) | (simp [kGive, mP, sP, inP, cl, alwP, alwM, cvP, whP, c1]; done) | (simp_all [kGive, mP, sP, inP, cl, alwP, alwM, cvP, whP]; done)) (by decide)) (z_kE (k := 1) (by first | (simp only [kGive, mP, sP, inP, cl, alwP, alwM, cvP, whP, c1, not_true_eq_false, not_false_eq_true, and_self, and_true, true_and, and_false, false_and, or_true, true_or, or_false, false_or, if_true, if_false, ite_true, ite_false]; done) | (simp [kGive, mP, sP, inP, cl, alwP, alwM, cvP, whP, c1]; done) | (simp_all [kGive, mP, sP, inP, cl, alwP, alwM, cvP, whP]; done)) (by decide)) (by decide) (by decide) dX5_give_29 dX5_give_32 dX5_give_33 dX5_give_35 dX5_give_38 (by decide) (by decide)
  · have c1 := bI_1 c1
    obtain ⟨g_, hg_, rfl⟩ := mem_nat hn c1
    refine lv_aload_n hx hb dX5_give_11 rfl (lv_at hl 0 rfl) ?_
    refine va_get (v := .ref (ad 0)) hx hb hts inTX5 hown hK hP (19 + (3 + (0))) ((bk_r).trans ((tx_r).trans (xo_0))) rfl 0 (by decide) (hts _ qf_X5_10) (fun _ h9 => h9) (rfl) dX5_give_12 ?_
    refine lv_iload_n hx hb dX5_give_15 rfl (lv_at hl 2 rfl) ?_
    refine z_callV1 (rest := []) S (c_X0_isMember (n := n) (show n ≤ 8 by omega) (hz) ta) qm_X5_49 v_X0_isMember ⟨Nat.le_of_ble_eq_true rfl, Nat.le_of_ble_eq_true rfl⟩ rfl rfl hN hK hP hD hS hA (0) (bk_0) rfl rfl hl.1 rfl (Nat.le_of_ble_eq_true rfl) dX5_give_16 ⟨Nat.le_of_ble_eq_true rfl, Nat.le_of_ble_eq_true rfl⟩ (fun H locs hP hD hS => ?_)
    refine lv_if_eq (tgt := 29) hx hb dX5_give_19 (by decide) (fun c2 => ?_) (fun c2 => ?_)
    · have c2 := bI_0 c2
      refine z_throw (rest := []) (cls := "java/lang/IndexOutOfBoundsException") (text := "no such member or skill") hfl S hlocks hX hJ hK hP hD hS (rfl) hl.1 (by decide) qk_X5_53 qn_IndexOutOfBoundsException at_IOB_g (fun w h => zBadX_in.2.2 w (at_IOB_b w h)) at_IOB_t (by decide) (z_k0 (k := 1) (by first | (simp only [kGive, mP, sP, inP, cl, alwP, alwM, cvP, whP, c1, nI_clamp (show g_ < 2 ^ 31 by omega), c2, not_true_eq_false, not_false_eq_true, and_self, and_true, true_and, and_false, false_and, or_true, true_or, or_false, false_or, if_true, if_false, ite_true, ite_false]; done) | (simp [kGive, mP, sP, inP, cl, alwP, alwM, cvP, whP, c1, nI_clamp (show g_ < 2 ^ 31 by omega), c2]; done) | (simp_all [kGive, mP, sP, inP, cl, alwP, alwM, cvP, whP]; done)) (by decide)) (z_kE (k := 1) (by first | (simp only [kGive, mP, sP, inP, cl, alwP, alwM, cvP, whP, c1, nI_clamp (show g_ < 2 ^ 31 by omega), c2, not_true_eq_false, not_false_eq_true, and_self, and_true, true_and, and_false, false_and, or_true, true_or, or_false, false_or, if_true, if_false, ite_true, ite_false]; done) | (simp [kGive, mP, sP, inP, cl, alwP, alwM, cvP, whP, c1, nI_clamp (show g_ < 2 ^ 31 by omega), c2]; done) | (simp_all [kGive, mP, sP, inP, cl, alwP, alwM, cvP, whP]; done)) (by decide)) (by decide) (by decide) dX5_give_29 dX5_give_32 dX5_give_33 dX5_give_35 dX5_give_38 (by decide) (by decide)
    · have c2 := bI_1 c2
      obtain ⟨t_, ht_, rfl⟩ := mem_nat hn c2
      refine lv_iload_n hx hb dX5_give_22 rfl (lv_at hl 3 rfl) ?_
      refine z_callS1 (rest := []) S (c_X5_isSkill sk) qm_X5_77 t_X5_isSkill ⟨Nat.le_of_ble_eq_true rfl, Nat.le_of_ble_eq_true rfl⟩ rfl rfl hN hK hP hD hS hA rfl hl.1 rfl (Nat.le_of_ble_eq_true rfl) dX5_give_23 ⟨Nat.le_of_ble_eq_true rfl, Nat.le_of_ble_eq_true rfl⟩ (fun H locs hP hD hS => ?_)
      refine lv_if_ne (tgt := 39) hx hb dX5_give_26 (by decide) (fun c3 => ?_) (fun c3 => ?_)
      · have c3 := bI_1 c3
        obtain ⟨k_, hk_, rfl⟩ := skl_nat c3
        refine lv_iload_n hx hb dX5_give_39 rfl (lv_at hl 1 rfl) ?_
        refine lv_iload_n hx hb dX5_give_40 rfl (lv_at hl 2 rfl) ?_
        refine lv_icmp_eq (tgt := 52) hx hb dX5_give_41 (by decide) (fun c4 => ?_) (fun c4 => ?_)
        · skip
          refine z_throw (rest := []) (cls := "java/lang/IllegalArgumentException") (text := "both are the same, or minutes is out of range") hfl S hlocks hX hJ hK hP hD hS (rfl) hl.1 (by decide) qk_X5_85 qn_IllegalArgumentException at_IAE_g (fun w h => zBadX_in.1 w (at_IAE_b w h)) at_IAE_t (by decide) (z_k0 (k := 2) (by first | (simp only [kGive, mP, sP, inP, cl, alwP, alwM, cvP, whP, c1, nI_clamp (show g_ < 2 ^ 31 by omega), c2, nI_clamp (show t_ < 2 ^ 31 by omega), c3, nI_clamp (show k_ < 2 ^ 31 by omega), c4, not_true_eq_false, not_false_eq_true, and_self, and_true, true_and, and_false, false_and, or_true, true_or, or_false, false_or, if_true, if_false, ite_true, ite_false]; done) | (simp [kGive, mP, sP, inP, cl, alwP, alwM, cvP, whP, c1, nI_clamp (show g_ < 2 ^ 31 by omega), c2, nI_clamp (show t_ < 2 ^ 31 by omega), c3, nI_clamp (show k_ < 2 ^ 31 by omega), c4]; done) | (simp_all [kGive, mP, sP, inP, cl, alwP, alwM, cvP, whP]; done)) (by decide)) (z_kE (k := 2) (by first | (simp only [kGive, mP, sP, inP, cl, alwP, alwM, cvP, whP, c1, nI_clamp (show g_ < 2 ^ 31 by omega), c2, nI_clamp (show t_ < 2 ^ 31 by omega), c3, nI_clamp (show k_ < 2 ^ 31 by omega), c4, not_true_eq_false, not_false_eq_true, and_self, and_true, true_and, and_false, false_and, or_true, true_or, or_false, false_or, if_true, if_false, ite_true, ite_false]; done) | (simp [kGive, mP, sP, inP, cl, alwP, alwM, cvP, whP, c1, nI_clamp (show g_ < 2 ^ 31 by omega), c2, nI_clamp (show t_ < 2 ^ 31 by omega), c3, nI_clamp (show k_ < 2 ^ 31 by omega), c4]; done) | (simp_all [kGive, mP, sP, inP, cl, alwP, alwM, cvP, whP]; done)) (by decide)) (by decide) (by decide) dX5_give_52 dX5_give_55 dX5_give_56 dX5_give_58 dX5_give_61 (by decide) (by decide)
        · skip
          refine lv_iload hx hb dX5_give_44 (lv_at hl 4 rfl) ?_
          refine z_callS1 (rest := []) S (c_X5_isDealMinutes mn) qm_X5_82 t_X5_isDealMinutes ⟨Nat.le_of_ble_eq_true rfl, Nat.le_of_ble_eq_true rfl⟩ rfl rfl hN hK hP hD hS hA rfl hl.1 rfl (Nat.le_of_ble_eq_true rfl) dX5_give_46 ⟨Nat.le_of_ble_eq_true rfl, Nat.le_of_ble_eq_true rfl⟩ (fun H locs hP hD hS => ?_)
          refine lv_if_ne (tgt := 62) hx hb dX5_give_49 (by decide) (fun c5 => ?_) (fun c5 => ?_)
          · have c5 := bI_1 c5
            refine lv_aload_n hx hb dX5_give_62 rfl (lv_at hl 0 rfl) ?_
            refine va_get (v := .ref (ad 0)) hx hb hts inTX5 hown hK hP (19 + (3 + (0))) ((bk_r).trans ((tx_r).trans (xo_0))) rfl 0 (by decide) (hts _ qf_X5_10) (fun _ h9 => h9) (rfl) dX5_give_63 ?_
            have hgt_ : g_ ≠ t_ := fun q => c4 (by rw [q])
            refine lv_iload_n hx hb dX5_give_66 rfl (lv_at hl 1 rfl) ?_
            refine lv_iload_n hx hb dX5_give_67 rfl (lv_at hl 2 rfl) ?_
            refine lv_iload_n hx hb dX5_give_68 rfl (lv_at hl 3 rfl) ?_
            refine lv_iload hx hb dX5_give_69 (lv_at hl 4 rfl) ?_
            refine z_callV1 (rest := []) S (c_X0_allowsDeal (n := n) (show n ≤ 8 by omega) (hz) g_ t_ k_ (show g_ < 8 by omega) (show t_ < 8 by omega) (show k_ < 5 by omega) mn) qm_X5_90 v_X0_allowsDeal ⟨Nat.le_of_ble_eq_true rfl, Nat.le_of_ble_eq_true rfl⟩ rfl rfl hN hK hP hD hS hA (0) (bk_0) rfl rfl hl.1 rfl (Nat.le_of_ble_eq_true rfl) dX5_give_71 ⟨Nat.le_of_ble_eq_true rfl, Nat.le_of_ble_eq_true rfl⟩ (fun H locs hP hD hS => ?_)
            refine lv_if_ne (tgt := 87) hx hb dX5_give_74 (by decide) (fun c6 => ?_) (fun c6 => ?_)
            · have c6 := bI_1 c6
              refine lv_aload_n hx hb dX5_give_87 rfl (lv_at hl 0 rfl) ?_
              refine va_get (v := .ref (h 0)) hx hb hts inTX5 hown hK hP (19 + (3 + (0))) ((bk_r).trans ((tx_r).trans (xo_0))) rfl 1 (by decide) (hts _ qf_X5_19) (fun _ h9 => h9) (rfl) dX5_give_88 ?_
              refine lv_aload_n hx hb dX5_give_91 rfl (lv_at hl 0 rfl) ?_
              refine va_get (v := .ref (ad 0)) hx hb hts inTX5 hown hK hP (19 + (3 + (0))) ((bk_r).trans ((tx_r).trans (xo_0))) rfl 0 (by decide) (hts _ qf_X5_10) (fun _ h9 => h9) (rfl) dX5_give_92 ?_
              refine z_callV0 (rest := []) S (c_X3_keep hnx hkp hB) qm_X5_41 v_X3_keep ⟨Nat.le_of_ble_eq_true rfl, Nat.le_of_ble_eq_true rfl⟩ rfl rfl hN hK hP hD hS hA (19 + (3 + (1 + (0)))) ((bk_r).trans ((tx_r).trans ((xo_r).trans (hs_0)))) rfl rfl hl.1 rfl (Nat.le_of_ble_eq_true rfl) dX5_give_95 ⟨Nat.le_of_ble_eq_true rfl, Nat.le_of_ble_eq_true rfl⟩ (fun H locs hP hD hS => ?_)
              refine lv_aload_n hx hb dX5_give_98 rfl (lv_at hl 0 rfl) ?_
              refine va_get (v := .ref (ad 0)) hx hb hts inTX5 hown hK hP (19 + (3 + (0))) ((bk_r).trans ((tx_r).trans (xo_0))) rfl 0 (by decide) (hts _ qf_X5_10) (fun _ h9 => h9) (rfl) dX5_give_99 ?_
              refine lv_iload_n hx hb dX5_give_102 rfl (lv_at hl 1 rfl) ?_
              refine lv_iload_n hx hb dX5_give_103 rfl (lv_at hl 2 rfl) ?_
              refine lv_iload_n hx hb dX5_give_104 rfl (lv_at hl 3 rfl) ?_
              refine lv_iload hx hb dX5_give_105 (lv_at hl 4 rfl) ?_
              refine z_callV1 (rest := []) S (c_X0_makeDeal g_ t_ k_ (show g_ < 8 by omega) (show t_ < 8 by omega) (by first | assumption | omega) (show k_ < 5 by omega) mn) qm_X5_96 v_X0_makeDeal ⟨Nat.le_of_ble_eq_true rfl, Nat.le_of_ble_eq_true rfl⟩ rfl rfl hN hK hP hD hS hA (0) (bk_0) rfl rfl hl.1 rfl (Nat.le_of_ble_eq_true rfl) dX5_give_107 ⟨Nat.le_of_ble_eq_true rfl, Nat.le_of_ble_eq_true rfl⟩ (fun H locs hP hD hS => ?_)
              refine W.widen (k := 1) (n := 6) (by decide) (by decide) ?_
              exact z_xiret hx hb hr hlocks hP hD hK hS (by simp only [kGive, cl, nI_clamp (show g_ < 2 ^ 31 by omega), nI_clamp (show t_ < 2 ^ 31 by omega), nI_clamp (show k_ < 2 ^ 31 by omega)]; rw [if_pos c1, if_pos c2, if_pos c3, if_neg c4, if_pos c5, if_pos c6]) (by simp only [cl, nI_clamp (show g_ < 2 ^ 31 by omega), nI_clamp (show t_ < 2 ^ 31 by omega), nI_clamp (show k_ < 2 ^ 31 by omega)]) (by simp only [cl, nI_clamp (show g_ < 2 ^ 31 by omega), nI_clamp (show t_ < 2 ^ 31 by omega), nI_clamp (show k_ < 2 ^ 31 by omega)]) dX5_give_110
            · have c6 := bI_0 c6
              refine z_throw (rest := []) (cls := "java/lang/IllegalStateException") (text := "one has left, or the deal is refused") hfl S hlocks hX hJ hK hP hD hS (rfl) hl.1 (by decide) qk_X5_34 qn_IllegalStateException at_ISE_g (fun w h => zBadX_in.2.1 w (at_ISE_b w h)) at_ISE_t (by decide) (z_k0 (k := 3) (by simp only [kGive, cl, nI_clamp (show g_ < 2 ^ 31 by omega), nI_clamp (show t_ < 2 ^ 31 by omega), nI_clamp (show k_ < 2 ^ 31 by omega)]; rw [if_pos c1, if_pos c2, if_pos c3, if_neg c4, if_pos c5, if_neg c6]) (by decide)) (z_kE (k := 3) (by simp only [kGive, cl, nI_clamp (show g_ < 2 ^ 31 by omega), nI_clamp (show t_ < 2 ^ 31 by omega), nI_clamp (show k_ < 2 ^ 31 by omega)]; rw [if_pos c1, if_pos c2, if_pos c3, if_neg c4, if_pos c5, if_neg c6]) (by decide)) (by decide) (by decide) dX5_give_77 dX5_give_80 dX5_give_81 dX5_give_83 dX5_give_86 (by decide) (by decide)
          · have c5 := bI_0 c5
            refine z_throw (rest := []) (cls := "java/lang/IllegalArgumentException") (text := "both are the same, or minutes is out of range") hfl S hlocks hX hJ hK hP hD hS (rfl) hl.1 (by decide) qk_X5_85 qn_IllegalArgumentException at_IAE_g (fun w h => zBadX_in.1 w (at_IAE_b w h)) at_IAE_t (by decide) (z_k0 (k := 2) (by first | (simp only [kGive, mP, sP, inP, cl, alwP, alwM, cvP, whP, c1, nI_clamp (show g_ < 2 ^ 31 by omega), c2, nI_clamp (show t_ < 2 ^ 31 by omega), c3, nI_clamp (show k_ < 2 ^ 31 by omega), c4, c5, not_true_eq_false, not_false_eq_true, and_self, and_true, true_and, and_false, false_and, or_true, true_or, or_false, false_or, if_true, if_false, ite_true, ite_false]; done) | (simp [kGive, mP, sP, inP, cl, alwP, alwM, cvP, whP, c1, nI_clamp (show g_ < 2 ^ 31 by omega), c2, nI_clamp (show t_ < 2 ^ 31 by omega), c3, nI_clamp (show k_ < 2 ^ 31 by omega), c4, c5]; done) | (simp_all [kGive, mP, sP, inP, cl, alwP, alwM, cvP, whP]; done)) (by decide)) (z_kE (k := 2) (by first | (simp only [kGive, mP, sP, inP, cl, alwP, alwM, cvP, whP, c1, nI_clamp (show g_ < 2 ^ 31 by omega), c2, nI_clamp (show t_ < 2 ^ 31 by omega), c3, nI_clamp (show k_ < 2 ^ 31 by omega), c4, c5, not_true_eq_false, not_false_eq_true, and_self, and_true, true_and, and_false, false_and, or_true, true_or, or_false, false_or, if_true, if_false, ite_true, ite_false]; done) | (simp [kGive, mP, sP, inP, cl, alwP, alwM, cvP, whP, c1, nI_clamp (show g_ < 2 ^ 31 by omega), c2, nI_clamp (show t_ < 2 ^ 31 by omega), c3, nI_clamp (show k_ < 2 ^ 31 by omega), c4, c5]; done) | (simp_all [kGive, mP, sP, inP, cl, alwP, alwM, cvP, whP]; done)) (by decide)) (by decide) (by decide) dX5_give_52 dX5_give_55 dX5_give_56 dX5_give_58 dX5_give_61 (by decide) (by decide)
      · have c3 := bI_0 c3
        refine z_throw (rest := []) (cls := "java/lang/IndexOutOfBoundsException") (text := "no such member or skill") hfl S hlocks hX hJ hK hP hD hS (rfl) hl.1 (by decide) qk_X5_53 qn_IndexOutOfBoundsException at_IOB_g (fun w h => zBadX_in.2.2 w (at_IOB_b w h)) at_IOB_t (by decide) (z_k0 (k := 1) (by first | (simp only [kGive, mP, sP, inP, cl, alwP, alwM, cvP, whP, c1, nI_clamp (show g_ < 2 ^ 31 by omega), c2, nI_clamp (show t_ < 2 ^ 31 by omega), c3, not_true_eq_false, not_false_eq_true, and_self, and_true, true_and, and_false, false_and, or_true, true_or, or_false, false_or, if_true, if_false, ite_true, ite_false]; done) | (simp [kGive, mP, sP, inP, cl, alwP, alwM, cvP, whP, c1, nI_clamp (show g_ < 2 ^ 31 by omega), c2, nI_clamp (show t_ < 2 ^ 31 by omega), c3]; done) | (simp_all [kGive, mP, sP, inP, cl, alwP, alwM, cvP, whP]; done)) (by decide)) (z_kE (k := 1) (by first | (simp only [kGive, mP, sP, inP, cl, alwP, alwM, cvP, whP, c1, nI_clamp (show g_ < 2 ^ 31 by omega), c2, nI_clamp (show t_ < 2 ^ 31 by omega), c3, not_true_eq_false, not_false_eq_true, and_self, and_true, true_and, and_false, false_and, or_true, true_or, or_false, false_or, if_true, if_false, ite_true, ite_false]; done) | (simp [kGive, mP, sP, inP, cl, alwP, alwM, cvP, whP, c1, nI_clamp (show g_ < 2 ^ 31 by omega), c2, nI_clamp (show t_ < 2 ^ 31 by omega), c3]; done) | (simp_all [kGive, mP, sP, inP, cl, alwP, alwM, cvP, whP]; done)) (by decide)) (by decide) (by decide) dX5_give_29 dX5_give_32 dX5_give_33 dX5_give_35 dX5_give_38 (by decide) (by decide)
set_option maxHeartbeats 4000000 in
set_option maxRecDepth 100000 in
theorem c_X5_donate (hfl : l.stackTraces = false) {n : Nat} (hn : n ≤ 8) (hz : z 5 = nI n) {nx kp : Nat} (hnx : nx < 6) (hkp : kp ≤ 6) (hB : hBool z) (mb mn : Int32) : zX l D (zT cI cC cM cB cJ) yX5_donate cX5_donate 3 (some .int) ({ frames := 6, cells := 1, slots := 6, locals := 90 } : Room) [.ref x, .int mb, .int mn] (bkW cI cM ad z (txW cC t sg sz r (xoW x ad h t (hsW cB h ah (nI nx) (nI kp) (hbW cI cM ah zh wr))))) (bkW cI cM ad (payZ z (cl mb) mn) (txW cC t sg sz r (xoW x ad h t (hsW cB h ah (nI ((nx + 1) % 6)) (nI (min (kp + 1) 6)) (hbW cI cM ah (zup zh nx z) wr))))) (bkW cI cM ad z (txW cC t sg sz r (xoW x ad h t (hsW cB h ah (nI nx) (nI kp) (hbW cI cM ah zh wr))))) (some (.int (z (14 + 16 * cl mb + 1) - mn))) "java/lang/IndexOutOfBoundsException" "java/lang/IllegalArgumentException" "java/lang/IllegalStateException" (kDonate z n mb mn) 1 6 := by
  refine z_enterX (by decide) (Nat.le_of_ble_eq_true rfl) ?_
  intro p e s m below meth c A S hr hlocks hX hJ hN hA hK hP hD hS ls hl
  obtain ⟨hx, hb, hml, hown, hts⟩ := id S
  have hl : lv_has ls 3 [(0, .ref x), (1, .int mb), (2, .int mn)] := hl
  have hP : va_P D vwCl (bkW cI cM ad z (txW cC t sg sz r (xoW x ad h t (hsW cB h ah (nI nx) (nI kp) (hbW cI cM ah zh wr))))) s.heap := hP
  have hD : va_D A (bkW cI cM ad z (txW cC t sg sz r (xoW x ad h t (hsW cB h ah (nI nx) (nI kp) (hbW cI cM ah zh wr))))) := hD
  refine lv_aload_n hx hb dX5_donate_0 rfl (lv_at hl 0 rfl) ?_
  refine va_get (v := .ref (ad 0)) hx hb hts inTX5 hown hK hP (19 + (3 + (0))) ((bk_r).trans ((tx_r).trans (xo_0))) rfl 0 (by decide) (hts _ qf_X5_10) (fun _ h9 => h9) (rfl) dX5_donate_1 ?_
  refine lv_iload_n hx hb dX5_donate_4 rfl (lv_at hl 1 rfl) ?_
  refine z_callV1 (rest := []) S (c_X0_isMember (n := n) (show n ≤ 8 by omega) (hz) mb) qm_X5_49 v_X0_isMember ⟨Nat.le_of_ble_eq_true rfl, Nat.le_of_ble_eq_true rfl⟩ rfl rfl hN hK hP hD hS hA (0) (bk_0) rfl rfl hl.1 rfl (Nat.le_of_ble_eq_true rfl) dX5_donate_5 ⟨Nat.le_of_ble_eq_true rfl, Nat.le_of_ble_eq_true rfl⟩ (fun H locs hP hD hS => ?_)
  refine lv_if_ne (tgt := 21) hx hb dX5_donate_8 (by decide) (fun c1 => ?_) (fun c1 => ?_)
  · have c1 := bI_1 c1
    obtain ⟨j, hj, rfl⟩ := mem_nat hn c1
    refine lv_iload_n hx hb dX5_donate_21 rfl (lv_at hl 2 rfl) ?_
    refine lv_iconst (v := 1) hx hb dX5_donate_22 (by decide) ?_
    refine lv_sipush (v := 999) hx hb dX5_donate_23 (by decide) ?_
    refine z_callS1 (rest := []) S (c_X5_isWithin mn 1 999) qm_X5_100 t_X5_isWithin ⟨Nat.le_of_ble_eq_true rfl, Nat.le_of_ble_eq_true rfl⟩ rfl rfl hN hK hP hD hS hA rfl hl.1 rfl (Nat.le_of_ble_eq_true rfl) dX5_donate_26 ⟨Nat.le_of_ble_eq_true rfl, Nat.le_of_ble_eq_true rfl⟩ (fun H locs hP hD hS => ?_)
    refine lv_if_ne (tgt := 42) hx hb dX5_donate_29 (by decide) (fun c2 => ?_) (fun c2 => ?_)
    · have c2 := bI_1 c2
      refine lv_aload_n hx hb dX5_donate_42 rfl (lv_at hl 0 rfl) ?_
      refine va_get (v := .ref (ad 0)) hx hb hts inTX5 hown hK hP (19 + (3 + (0))) ((bk_r).trans ((tx_r).trans (xo_0))) rfl 0 (by decide) (hts _ qf_X5_10) (fun _ h9 => h9) (rfl) dX5_donate_43 ?_
      refine va_get (v := .ref (ad 1)) hx hb hts inTX0 hown hK hP (0) (bk_0) rfl 0 (by decide) (hts _ qf_X5_58) (fun _ h9 => h9) (rfl) dX5_donate_46 ?_
      refine lv_iload_n hx hb dX5_donate_49 rfl (lv_at hl 1 rfl) ?_
      refine va_aldq hx hb hK hP (1) 2 (bk_1) rfl (vp_in_nI (show j < 8 by omega) (by omega)) dX5_donate_50 ?_
      refine z_top (v2 := .ref (ad (3 + j))) (z_rf rfl) ?_
      refine va_get (v := .int (z (14 + 16 * j))) hx hb hts inTX4 hown hK hP (3 + j) (bk_m (show j < 8 by omega)) rfl 1 (by decide) (hts _ qf_X5_62) (fun _ h9 => h9) (rfl) dX5_donate_51 ?_
      refine lv_if_eq (tgt := 73) hx hb dX5_donate_54 (by decide) (fun c3 => ?_) (fun c3 => ?_)
      · skip
        refine z_throw (rest := []) (cls := "java/lang/IllegalStateException") (text := "the member has left, or the balance is less than that") hfl S hlocks hX hJ hK hP hD hS (rfl) hl.1 (by decide) qk_X5_34 qn_IllegalStateException at_ISE_g (fun w h => zBadX_in.2.1 w (at_ISE_b w h)) at_ISE_t (by decide) (z_k0 (k := 3) (by first | (simp only [kDonate, mP, sP, inP, cl, alwP, alwM, cvP, whP, c1, nI_clamp (show j < 2 ^ 31 by omega), c2, c3, not_true_eq_false, not_false_eq_true, and_self, and_true, true_and, and_false, false_and, or_true, true_or, or_false, false_or, if_true, if_false, ite_true, ite_false]; done) | (simp [kDonate, mP, sP, inP, cl, alwP, alwM, cvP, whP, c1, nI_clamp (show j < 2 ^ 31 by omega), c2, c3]; done) | (simp_all [kDonate, mP, sP, inP, cl, alwP, alwM, cvP, whP]; done)) (by decide)) (z_kE (k := 3) (by first | (simp only [kDonate, mP, sP, inP, cl, alwP, alwM, cvP, whP, c1, nI_clamp (show j < 2 ^ 31 by omega), c2, c3, not_true_eq_false, not_false_eq_true, and_self, and_true, true_and, and_false, false_and, or_true, true_or, or_false, false_or, if_true, if_false, ite_true, ite_false]; done) | (simp [kDonate, mP, sP, inP, cl, alwP, alwM, cvP, whP, c1, nI_clamp (show j < 2 ^ 31 by omega), c2, c3]; done) | (simp_all [kDonate, mP, sP, inP, cl, alwP, alwM, cvP, whP]; done)) (by decide)) (by decide) (by decide) dX5_donate_73 dX5_donate_76 dX5_donate_77 dX5_donate_79 dX5_donate_82 (by decide) (by decide)
      · skip
        refine lv_aload_n hx hb dX5_donate_57 rfl (lv_at hl 0 rfl) ?_
        refine va_get (v := .ref (ad 0)) hx hb hts inTX5 hown hK hP (19 + (3 + (0))) ((bk_r).trans ((tx_r).trans (xo_0))) rfl 0 (by decide) (hts _ qf_X5_10) (fun _ h9 => h9) (rfl) dX5_donate_58 ?_
        refine va_get (v := .ref (ad 1)) hx hb hts inTX0 hown hK hP (0) (bk_0) rfl 0 (by decide) (hts _ qf_X5_58) (fun _ h9 => h9) (rfl) dX5_donate_61 ?_
        refine lv_iload_n hx hb dX5_donate_64 rfl (lv_at hl 1 rfl) ?_
        refine va_aldq hx hb hK hP (1) 2 (bk_1) rfl (vp_in_nI (show j < 8 by omega) (by omega)) dX5_donate_65 ?_
        refine z_top (v2 := .ref (ad (3 + j))) (z_rf rfl) ?_
        refine va_get (v := .int (z (14 + 16 * j + 1))) hx hb hts inTX4 hown hK hP (3 + j) (bk_m (show j < 8 by omega)) rfl 3 (by decide) (hts _ qf_X5_68) (fun _ h9 => h9) (rfl) dX5_donate_66 ?_
        refine lv_iload_n hx hb dX5_donate_69 rfl (lv_at hl 2 rfl) ?_
        refine lv_icmp_ge (tgt := 83) hx hb dX5_donate_70 (by decide) (fun c4 => ?_) (fun c4 => ?_)
        · have c4 := z_nlt c4
          refine lv_aload_n hx hb dX5_donate_83 rfl (lv_at hl 0 rfl) ?_
          refine va_get (v := .ref (h 0)) hx hb hts inTX5 hown hK hP (19 + (3 + (0))) ((bk_r).trans ((tx_r).trans (xo_0))) rfl 1 (by decide) (hts _ qf_X5_19) (fun _ h9 => h9) (rfl) dX5_donate_84 ?_
          refine lv_aload_n hx hb dX5_donate_87 rfl (lv_at hl 0 rfl) ?_
          refine va_get (v := .ref (ad 0)) hx hb hts inTX5 hown hK hP (19 + (3 + (0))) ((bk_r).trans ((tx_r).trans (xo_0))) rfl 0 (by decide) (hts _ qf_X5_10) (fun _ h9 => h9) (rfl) dX5_donate_88 ?_
          refine z_callV0 (rest := []) S (c_X3_keep hnx hkp hB) qm_X5_41 v_X3_keep ⟨Nat.le_of_ble_eq_true rfl, Nat.le_of_ble_eq_true rfl⟩ rfl rfl hN hK hP hD hS hA (19 + (3 + (1 + (0)))) ((bk_r).trans ((tx_r).trans ((xo_r).trans (hs_0)))) rfl rfl hl.1 rfl (Nat.le_of_ble_eq_true rfl) dX5_donate_91 ⟨Nat.le_of_ble_eq_true rfl, Nat.le_of_ble_eq_true rfl⟩ (fun H locs hP hD hS => ?_)
          refine lv_aload_n hx hb dX5_donate_94 rfl (lv_at hl 0 rfl) ?_
          refine va_get (v := .ref (ad 0)) hx hb hts inTX5 hown hK hP (19 + (3 + (0))) ((bk_r).trans ((tx_r).trans (xo_0))) rfl 0 (by decide) (hts _ qf_X5_10) (fun _ h9 => h9) (rfl) dX5_donate_95 ?_
          refine lv_iload_n hx hb dX5_donate_98 rfl (lv_at hl 1 rfl) ?_
          refine lv_iload_n hx hb dX5_donate_99 rfl (lv_at hl 2 rfl) ?_
          refine z_callV0 (rest := []) S (c_X0_payToCommon j (show j < 8 by omega) mn (z (14 + 16 * j + 1)) (z 6) (rfl) (rfl)) qm_X5_108 v_X0_payToCommon ⟨Nat.le_of_ble_eq_true rfl, Nat.le_of_ble_eq_true rfl⟩ rfl rfl hN hK hP hD hS hA (0) (bk_0) rfl rfl hl.1 rfl (Nat.le_of_ble_eq_true rfl) dX5_donate_100 ⟨Nat.le_of_ble_eq_true rfl, Nat.le_of_ble_eq_true rfl⟩ (fun H locs hP hD hS => ?_)
          refine lv_aload_n hx hb dX5_donate_103 rfl (lv_at hl 0 rfl) ?_
          refine va_get (v := .ref (ad 0)) hx hb hts inTX5 hown hK hP (19 + (3 + (0))) ((bk_r).trans ((tx_r).trans (xo_0))) rfl 0 (by decide) (hts _ qf_X5_10) (fun _ h9 => h9) (rfl) dX5_donate_104 ?_
          refine va_get (v := .ref (ad 1)) hx hb hts inTX0 hown hK hP (0) (bk_0) rfl 0 (by decide) (hts _ qf_X5_58) (fun _ h9 => h9) (rfl) dX5_donate_107 ?_
          refine lv_iload_n hx hb dX5_donate_110 rfl (lv_at hl 1 rfl) ?_
          refine va_aldq hx hb hK hP (1) 2 (bk_1) rfl (vp_in_nI (show j < 8 by omega) (by omega)) dX5_donate_111 ?_
          refine z_top (v2 := .ref (ad (3 + j))) (z_rf rfl) ?_
          refine va_get (v := .int ((z (14 + 16 * j + 1)) - mn)) hx hb hts inTX4 hown hK hP (3 + j) (bk_m (show j < 8 by omega)) rfl 3 (by decide) (hts _ qf_X5_68) (fun _ h9 => h9) (congrArg (fun x => some (Value.int x)) ((upd_ne (by omega)).trans (upd_eq rfl))) dX5_donate_112 ?_
          refine W.widen (k := 1) (n := 6) (by decide) (by decide) ?_
          exact z_xiret hx hb hr hlocks hP hD hK hS (by first | (simp only [kDonate, mP, sP, inP, cl, alwP, alwM, cvP, whP, c1, nI_clamp (show j < 2 ^ 31 by omega), c2, c3, c4, not_true_eq_false, not_false_eq_true, and_self, and_true, true_and, and_false, false_and, or_true, true_or, or_false, false_or, if_true, if_false, ite_true, ite_false]; done) | (simp [kDonate, mP, sP, inP, cl, alwP, alwM, cvP, whP, c1, nI_clamp (show j < 2 ^ 31 by omega), c2, c3, c4]; done) | (simp_all [kDonate, mP, sP, inP, cl, alwP, alwM, cvP, whP]; done)) (by first | rfl | (simp only [payZ, minP, maxP, c1, nI_clamp (show j < 2 ^ 31 by omega), c2, c3, c4, not_true_eq_false, not_false_eq_true, and_self, and_true, true_and, and_false, false_and, or_true, true_or, or_false, false_or, if_true, if_false, ite_true, ite_false]; done) | (simp [payZ, minP, maxP, c1, nI_clamp (show j < 2 ^ 31 by omega), c2, c3, c4]; done) | (simp_all [payZ, minP, maxP]; done)) (by first | rfl | (simp only [payZ, minP, maxP, c1, nI_clamp (show j < 2 ^ 31 by omega), c2, c3, c4, not_true_eq_false, not_false_eq_true, and_self, and_true, true_and, and_false, false_and, or_true, true_or, or_false, false_or, if_true, if_false, ite_true, ite_false]; done) | (simp [payZ, minP, maxP, c1, nI_clamp (show j < 2 ^ 31 by omega), c2, c3, c4]; done) | (simp_all [payZ, minP, maxP]; done)) dX5_donate_115
        · have c4 := z_lt c4
          refine z_throw (rest := []) (cls := "java/lang/IllegalStateException") (text := "the member has left, or the balance is less than that") hfl S hlocks hX hJ hK hP hD hS (rfl) hl.1 (by decide) qk_X5_34 qn_IllegalStateException at_ISE_g (fun w h => zBadX_in.2.1 w (at_ISE_b w h)) at_ISE_t (by decide) (z_k0 (k := 3) (by first | (simp only [kDonate, mP, sP, inP, cl, alwP, alwM, cvP, whP, c1, nI_clamp (show j < 2 ^ 31 by omega), c2, c3, c4, not_true_eq_false, not_false_eq_true, and_self, and_true, true_and, and_false, false_and, or_true, true_or, or_false, false_or, if_true, if_false, ite_true, ite_false]; done) | (simp [kDonate, mP, sP, inP, cl, alwP, alwM, cvP, whP, c1, nI_clamp (show j < 2 ^ 31 by omega), c2, c3, c4]; done) | (simp_all [kDonate, mP, sP, inP, cl, alwP, alwM, cvP, whP]; done)) (by decide)) (z_kE (k := 3) (by first | (simp only [kDonate, mP, sP, inP, cl, alwP, alwM, cvP, whP, c1, nI_clamp (show j < 2 ^ 31 by omega), c2, c3, c4, not_true_eq_false, not_false_eq_true, and_self, and_true, true_and, and_false, false_and, or_true, true_or, or_false, false_or, if_true, if_false, ite_true, ite_false]; done) | (simp [kDonate, mP, sP, inP, cl, alwP, alwM, cvP, whP, c1, nI_clamp (show j < 2 ^ 31 by omega), c2, c3, c4]; done) | (simp_all [kDonate, mP, sP, inP, cl, alwP, alwM, cvP, whP]; done)) (by decide)) (by decide) (by decide) dX5_donate_73 dX5_donate_76 dX5_donate_77 dX5_donate_79 dX5_donate_82 (by decide) (by decide)
    · have c2 := bI_0 c2
      refine z_throw (rest := []) (cls := "java/lang/IllegalArgumentException") (text := "minutes is out of range") hfl S hlocks hX hJ hK hP hD hS (rfl) hl.1 (by decide) qk_X5_85 qn_IllegalArgumentException at_IAE_g (fun w h => zBadX_in.1 w (at_IAE_b w h)) at_IAE_t (by decide) (z_k0 (k := 2) (by first | (simp only [kDonate, mP, sP, inP, cl, alwP, alwM, cvP, whP, c1, nI_clamp (show j < 2 ^ 31 by omega), c2, not_true_eq_false, not_false_eq_true, and_self, and_true, true_and, and_false, false_and, or_true, true_or, or_false, false_or, if_true, if_false, ite_true, ite_false]; done) | (simp [kDonate, mP, sP, inP, cl, alwP, alwM, cvP, whP, c1, nI_clamp (show j < 2 ^ 31 by omega), c2]; done) | (simp_all [kDonate, mP, sP, inP, cl, alwP, alwM, cvP, whP]; done)) (by decide)) (z_kE (k := 2) (by first | (simp only [kDonate, mP, sP, inP, cl, alwP, alwM, cvP, whP, c1, nI_clamp (show j < 2 ^ 31 by omega), c2, not_true_eq_false, not_false_eq_true, and_self, and_true, true_and, and_false, false_and, or_true, true_or, or_false, false_or, if_true, if_false, ite_true, ite_false]; done) | (simp [kDonate, mP, sP, inP, cl, alwP, alwM, cvP, whP, c1, nI_clamp (show j < 2 ^ 31 by omega), c2]; done) | (simp_all [kDonate, mP, sP, inP, cl, alwP, alwM, cvP, whP]; done)) (by decide)) (by decide) (by decide) dX5_donate_32 dX5_donate_35 dX5_donate_36 dX5_donate_38 dX5_donate_41 (by decide) (by decide)
  · have c1 := bI_0 c1
    refine z_throw (rest := []) (cls := "java/lang/IndexOutOfBoundsException") (text := "no such member") hfl S hlocks hX hJ hK hP hD hS (rfl) hl.1 (by decide) qk_X5_53 qn_IndexOutOfBoundsException at_IOB_g (fun w h => zBadX_in.2.2 w (at_IOB_b w h)) at_IOB_t (by decide) (z_k0 (k := 1) (by first | (simp only [kDonate, mP, sP, inP, cl, alwP, alwM, cvP, whP, c1, not_true_eq_false, not_false_eq_true, and_self, and_true, true_and, and_false, false_and, or_true, true_or, or_false, false_or, if_true, if_false, ite_true, ite_false]; done) | (simp [kDonate, mP, sP, inP, cl, alwP, alwM, cvP, whP, c1]; done) | (simp_all [kDonate, mP, sP, inP, cl, alwP, alwM, cvP, whP]; done)) (by decide)) (z_kE (k := 1) (by first | (simp only [kDonate, mP, sP, inP, cl, alwP, alwM, cvP, whP, c1, not_true_eq_false, not_false_eq_true, and_self, and_true, true_and, and_false, false_and, or_true, true_or, or_false, false_or, if_true, if_false, ite_true, ite_false]; done) | (simp [kDonate, mP, sP, inP, cl, alwP, alwM, cvP, whP, c1]; done) | (simp_all [kDonate, mP, sP, inP, cl, alwP, alwM, cvP, whP]; done)) (by decide)) (by decide) (by decide) dX5_donate_11 dX5_donate_14 dX5_donate_15 dX5_donate_17 dX5_donate_20 (by decide) (by decide)
set_option maxHeartbeats 4000000 in
set_option maxRecDepth 100000 in
theorem c_X5_pass (hfl : l.stackTraces = false) {n : Nat} (hn : n ≤ 8) (hz : z 5 = nI n) {nx kp : Nat} (hnx : nx < 6) (hkp : kp ≤ 6) (hB : hBool z) (wk : Int32) : zX l D (zT cI cC cM cB cJ) yX5_pass cX5_pass 4 (some .int) ({ frames := 6, cells := 1, slots := 6, locals := 90 } : Room) [.ref x, .int wk] (bkW cI cM ad z (txW cC t sg sz r (xoW x ad h t (hsW cB h ah (nI nx) (nI kp) (hbW cI cM ah zh wr))))) (bkW cI cM ad (wkI z n (cl wk)) (txW cC t sg sz r (xoW x ad h t (hsW cB h ah (nI ((nx + 1) % 6)) (nI (min (kp + 1) 6)) (hbW cI cM ah (zup zh nx z) wr))))) (bkW cI cM ad z (txW cC t sg sz r (xoW x ad h t (hsW cB h ah (nI nx) (nI kp) (hbW cI cM ah zh wr))))) (some (.int (wkS z n (cl wk)))) "java/lang/IllegalArgumentException" "java/lang/IllegalStateException" "" (kPass z wk) 1 6 := by
  refine z_enterX (by decide) (Nat.le_of_ble_eq_true rfl) ?_
  intro p e s m below meth c A S hr hlocks hX hJ hN hA hK hP hD hS ls hl
  obtain ⟨hx, hb, hml, hown, hts⟩ := id S
  have hl : lv_has ls 4 [(0, .ref x), (1, .int wk)] := hl
  have hP : va_P D vwCl (bkW cI cM ad z (txW cC t sg sz r (xoW x ad h t (hsW cB h ah (nI nx) (nI kp) (hbW cI cM ah zh wr))))) s.heap := hP
  have hD : va_D A (bkW cI cM ad z (txW cC t sg sz r (xoW x ad h t (hsW cB h ah (nI nx) (nI kp) (hbW cI cM ah zh wr))))) := hD
  refine lv_iload_n hx hb dX5_pass_0 rfl (lv_at hl 1 rfl) ?_
  refine lv_iconst (v := 1) hx hb dX5_pass_1 (by decide) ?_
  refine lv_bipush (v := 50) hx hb dX5_pass_2 (by decide) ?_
  refine z_callS1 (rest := []) S (c_X5_isWithin wk 1 50) qm_X5_100 t_X5_isWithin ⟨Nat.le_of_ble_eq_true rfl, Nat.le_of_ble_eq_true rfl⟩ rfl rfl hN hK hP hD hS hA rfl hl.1 rfl (Nat.le_of_ble_eq_true rfl) dX5_pass_4 ⟨Nat.le_of_ble_eq_true rfl, Nat.le_of_ble_eq_true rfl⟩ (fun H locs hP hD hS => ?_)
  refine lv_if_ne (tgt := 20) hx hb dX5_pass_7 (by decide) (fun c1 => ?_) (fun c1 => ?_)
  · have c1 := bI_1 c1
    obtain ⟨v_, hv_, rfl⟩ := w50_nat c1
    refine lv_aload_n hx hb dX5_pass_20 rfl (lv_at hl 0 rfl) ?_
    refine va_get (v := .ref (ad 0)) hx hb hts inTX5 hown hK hP (19 + (3 + (0))) ((bk_r).trans ((tx_r).trans (xo_0))) rfl 0 (by decide) (hts _ qf_X5_10) (fun _ h9 => h9) (rfl) dX5_pass_21 ?_
    refine va_get (v := .int (z 8)) hx hb hts inTX0 hown hK hP (0) (bk_0) rfl 5 (by decide) (hts _ qf_X5_114) (fun _ h9 => h9) (rfl) dX5_pass_24 ?_
    refine lv_iload_n hx hb dX5_pass_27 rfl (lv_at hl 1 rfl) ?_
    refine lv_iadd hx hb dX5_pass_28  ?_
    refine lv_sipush (v := 2000) hx hb dX5_pass_29 (by decide) ?_
    refine lv_icmp_le (tgt := 45) hx hb dX5_pass_32 (by decide) (fun c2 => ?_) (fun c2 => ?_)
    · have c2 := z_nlt c2
      refine lv_aload_n hx hb dX5_pass_45 rfl (lv_at hl 0 rfl) ?_
      refine va_get (v := .ref (h 0)) hx hb hts inTX5 hown hK hP (19 + (3 + (0))) ((bk_r).trans ((tx_r).trans (xo_0))) rfl 1 (by decide) (hts _ qf_X5_19) (fun _ h9 => h9) (rfl) dX5_pass_46 ?_
      refine lv_aload_n hx hb dX5_pass_49 rfl (lv_at hl 0 rfl) ?_
      refine va_get (v := .ref (ad 0)) hx hb hts inTX5 hown hK hP (19 + (3 + (0))) ((bk_r).trans ((tx_r).trans (xo_0))) rfl 0 (by decide) (hts _ qf_X5_10) (fun _ h9 => h9) (rfl) dX5_pass_50 ?_
      refine z_callV0 (rest := []) S (c_X3_keep hnx hkp hB) qm_X5_41 v_X3_keep ⟨Nat.le_of_ble_eq_true rfl, Nat.le_of_ble_eq_true rfl⟩ rfl rfl hN hK hP hD hS hA (19 + (3 + (1 + (0)))) ((bk_r).trans ((tx_r).trans ((xo_r).trans (hs_0)))) rfl rfl hl.1 rfl (Nat.le_of_ble_eq_true rfl) dX5_pass_53 ⟨Nat.le_of_ble_eq_true rfl, Nat.le_of_ble_eq_true rfl⟩ (fun H locs hP hD hS => ?_)
      refine lv_iconst (v := 0) hx hb dX5_pass_56 (by decide) ?_
      refine lv_istore_n (lv' := [(2, .int 0), (0, .ref x), (1, .int (nI v_))]) hx hb dX5_pass_57 rfl hl (by decide) rfl (fun ls hl => ?_)
      refine lv_iconst (v := 0) hx hb dX5_pass_58 (by decide) ?_
      refine lv_istore_n (lv' := [(3, .int 0), (2, .int 0), (0, .ref x), (1, .int (nI v_))]) hx hb dX5_pass_59 rfl hl (by decide) rfl (fun ls hl => ?_)
      have K60 : ∀ (n60 i : Nat), i + n60 = v_ → ∀ (H : Heap) (locs : List Loc), va_P D vwCl (bkW cI cM ad (wkI z n i) (txW cC t sg sz r (xoW x ad h t (hsW cB h ah (nI ((nx + 1) % 6)) (nI (min (kp + 1) 6)) (hbW cI cM ah (zup zh nx z) wr))))) H → va_D A (bkW cI cM ad (wkI z n i) (txW cC t sg sz r (xoW x ad h t (hsW cB h ah (nI ((nx + 1) % 6)) (nI (min (kp + 1) 6)) (hbW cI cM ah (zup zh nx z) wr))))) → va_S A s.heap H locs → ∀ ls : Array Slot, lv_has ls 4 [(0, .ref x), (1, .int (nI v_)), (2, .int (wkS z n i)), (3, .int (nI i))] → W p l e ({ frames := 6, cells := 1, slots := 6, locals := 90 } : Room) s m ([.ref x, .int (nI v_)] : List Value).toArray below meth c H locs 0 0 (vx_MQ below (zXQ D (zT cI cC cM cB cJ) (bkW cI cM ad (wkI z n (cl (nI v_))) (txW cC t sg sz r (xoW x ad h t (hsW cB h ah (nI ((nx + 1) % 6)) (nI (min (kp + 1) 6)) (hbW cI cM ah (zup zh nx z) wr))))) (some (.int (wkS z n (cl (nI v_))))) (kPass z (nI v_)) A) (zXE D (zT cI cC cM cB cJ) (bkW cI cM ad z (txW cC t sg sz r (xoW x ad h t (hsW cB h ah (nI nx) (nI kp) (hbW cI cM ah zh wr))))) "java/lang/IllegalArgumentException" "java/lang/IllegalStateException" "" (kPass z (nI v_)) A) ([.ref x, .int (nI v_)] : List Value).toArray s 1 6 A) (F0 m 60 ls []) := by
        intro n60
        induction n60 with
        | zero =>
          intro i h_i H locs hP hD hS ls hl
          have ei : v_ = i := by omega
          subst ei
          refine lv_iload_n hx hb dX5_pass_60 rfl (lv_at hl 3 rfl) ?_
          refine lv_iload_n hx hb dX5_pass_61 rfl (lv_at hl 1 rfl) ?_
          refine lv_icmp_ge (tgt := 81) hx hb dX5_pass_62 (by decide) (fun c3 => ?_) (fun c3 => absurd (nI_le (a := v_) (b := v_) (by omega) (by omega)) c3)
          have c3 := z_nlt c3
          refine lv_iload_n hx hb dX5_pass_81 rfl (lv_at hl 2 rfl) ?_
          refine W.widen (k := 1) (n := 6) (by decide) (by decide) ?_
          exact z_xiret hx hb hr hlocks hP hD hK hS (by first | (simp only [kPass, mP, sP, inP, cl, alwP, alwM, cvP, whP, c1, nI_clamp (show v_ < 2 ^ 31 by omega), c2, c3, not_true_eq_false, not_false_eq_true, and_self, and_true, true_and, and_false, false_and, or_true, true_or, or_false, false_or, if_true, if_false, ite_true, ite_false]; done) | (simp [kPass, mP, sP, inP, cl, alwP, alwM, cvP, whP, c1, nI_clamp (show v_ < 2 ^ 31 by omega), c2, c3]; done) | (simp_all [kPass, mP, sP, inP, cl, alwP, alwM, cvP, whP]; done)) (by first | rfl | (simp only [minP, maxP, c1, nI_clamp (show v_ < 2 ^ 31 by omega), c2, c3, not_true_eq_false, not_false_eq_true, and_self, and_true, true_and, and_false, false_and, or_true, true_or, or_false, false_or, if_true, if_false, ite_true, ite_false]; done) | (simp [minP, maxP, c1, nI_clamp (show v_ < 2 ^ 31 by omega), c2, c3]; done) | (simp_all [minP, maxP]; done)) (by first | rfl | (simp only [minP, maxP, c1, nI_clamp (show v_ < 2 ^ 31 by omega), c2, c3, not_true_eq_false, not_false_eq_true, and_self, and_true, true_and, and_false, false_and, or_true, true_or, or_false, false_or, if_true, if_false, ite_true, ite_false]; done) | (simp [minP, maxP, c1, nI_clamp (show v_ < 2 ^ 31 by omega), c2, c3]; done) | (simp_all [minP, maxP]; done)) dX5_pass_82
        | succ n60 ih60 =>
          intro i h_i H locs hP hD hS ls hl
          have li : i < v_ := by omega
          refine lv_iload_n hx hb dX5_pass_60 rfl (lv_at hl 3 rfl) ?_
          refine lv_iload_n hx hb dX5_pass_61 rfl (lv_at hl 1 rfl) ?_
          refine lv_icmp_ge (tgt := 81) hx hb dX5_pass_62 (by decide) (fun c4 => absurd c4 (nI_ge (a := i) (b := v_) (by omega) (by omega))) (fun c4 => ?_)
          have c4 := z_lt c4
          refine lv_iload_n hx hb dX5_pass_65 rfl (lv_at hl 2 rfl) ?_
          refine lv_aload_n hx hb dX5_pass_66 rfl (lv_at hl 0 rfl) ?_
          refine va_get (v := .ref (ad 0)) hx hb hts inTX5 hown hK hP (19 + (3 + (0))) ((bk_r).trans ((tx_r).trans (xo_0))) rfl 0 (by decide) (hts _ qf_X5_10) (fun _ h9 => h9) (rfl) dX5_pass_67 ?_
          refine z_callV1 (rest := [.int (wkS z n i)]) S (c_X0_endWeek (n := n) (show n ≤ 8 by omega) ((wkI_at _ (by omega) (by omega) (by omega)).trans hz)) qm_X5_119 v_X0_endWeek ⟨Nat.le_of_ble_eq_true rfl, Nat.le_of_ble_eq_true rfl⟩ rfl rfl hN hK hP hD hS hA (0) (bk_0) rfl rfl hl.1 rfl (Nat.le_of_ble_eq_true rfl) dX5_pass_70 ⟨Nat.le_of_ble_eq_true rfl, Nat.le_of_ble_eq_true rfl⟩ (fun H locs hP hD hS => ?_)
          refine lv_iadd hx hb dX5_pass_73  ?_
          refine lv_istore_n (lv' := [(2, .int ((wkS z n i) + (wkR (wkI z n i) n))), (0, .ref x), (1, .int (nI v_)), (3, .int (nI i))]) hx hb dX5_pass_74 rfl hl (by decide) rfl (fun ls hl => ?_)
          refine lv_iinc (v := nI (i + 1)) (lv' := [(3, .int (nI (i + 1))), (2, .int ((wkS z n i) + (wkR (wkI z n i) n))), (0, .ref x), (1, .int (nI v_))]) hx hb dX5_pass_75 hl (k := 3) rfl (nI_1 _) (by decide) rfl (fun ls hl => ?_)
          refine lv_goto (tgt := 60) hx hb dX5_pass_78 (by decide) ?_
          have hl := (congrArg (fun qv_ => lv_has ls 4 [(3, .int (nI (i + 1))), (2, qv_), (0, .ref x), (1, .int (nI v_))]) (show Value.int ((wkS z n i) + (wkR (wkI z n i) n)) = .int (wkS z n (i + 1)) from congrArg Value.int (rfl))).mp hl
          have hP := va_P_eq (w2 := bkW cI cM ad (wkI z n (i + 1)) (txW cC t sg sz r (xoW x ad h t (hsW cB h ah (nI ((nx + 1) % 6)) (nI (min (kp + 1) 6)) (hbW cI cM ah (zup zh nx z) wr))))) (rfl) hP
          have hD := va_D_eq (w2 := bkW cI cM ad (wkI z n (i + 1)) (txW cC t sg sz r (xoW x ad h t (hsW cB h ah (nI ((nx + 1) % 6)) (nI (min (kp + 1) 6)) (hbW cI cM ah (zup zh nx z) wr))))) (rfl) hD
          exact ih60 (i + 1) (by omega) _ _ hP hD hS ls (lv_sub hl [2, 3, 1, 0] rfl)
      have hl := (congrArg (fun qv_ => lv_has ls 4 [(3, .int 0), (2, qv_), (0, .ref x), (1, .int (nI v_))]) (show Value.int 0 = .int (wkS z n 0) from congrArg Value.int (by rfl))).mp hl
      have hl := (congrArg (fun qv_ => lv_has ls 4 [(3, qv_), (2, .int (wkS z n 0)), (0, .ref x), (1, .int (nI v_))]) (show Value.int 0 = .int (nI 0) from congrArg Value.int (by rfl))).mp hl
      have hP := va_P_eq (w2 := bkW cI cM ad (wkI z n 0) (txW cC t sg sz r (xoW x ad h t (hsW cB h ah (nI ((nx + 1) % 6)) (nI (min (kp + 1) 6)) (hbW cI cM ah (zup zh nx z) wr))))) (rfl) hP
      have hD := va_D_eq (w2 := bkW cI cM ad (wkI z n 0) (txW cC t sg sz r (xoW x ad h t (hsW cB h ah (nI ((nx + 1) % 6)) (nI (min (kp + 1) 6)) (hbW cI cM ah (zup zh nx z) wr))))) (rfl) hD
      exact K60 v_ 0 (by omega) _ _ hP hD hS ls (lv_sub hl [2, 3, 1, 0] rfl)
    · have c2 := z_lt c2
      refine z_throw (rest := []) (cls := "java/lang/IllegalStateException") (text := "the number of the week would be above 2000") hfl S hlocks hX hJ hK hP hD hS (rfl) hl.1 (by decide) qk_X5_34 qn_IllegalStateException at_ISE_g (fun w h => zBadX_in.2.1 w (at_ISE_b w h)) at_ISE_t (by decide) (z_k0 (k := 2) (by first | (simp only [kPass, mP, sP, inP, cl, alwP, alwM, cvP, whP, c1, nI_clamp (show v_ < 2 ^ 31 by omega), c2, not_true_eq_false, not_false_eq_true, and_self, and_true, true_and, and_false, false_and, or_true, true_or, or_false, false_or, if_true, if_false, ite_true, ite_false]; done) | (simp [kPass, mP, sP, inP, cl, alwP, alwM, cvP, whP, c1, nI_clamp (show v_ < 2 ^ 31 by omega), c2]; done) | (simp_all [kPass, mP, sP, inP, cl, alwP, alwM, cvP, whP]; done)) (by decide)) (z_kE (k := 2) (by first | (simp only [kPass, mP, sP, inP, cl, alwP, alwM, cvP, whP, c1, nI_clamp (show v_ < 2 ^ 31 by omega), c2, not_true_eq_false, not_false_eq_true, and_self, and_true, true_and, and_false, false_and, or_true, true_or, or_false, false_or, if_true, if_false, ite_true, ite_false]; done) | (simp [kPass, mP, sP, inP, cl, alwP, alwM, cvP, whP, c1, nI_clamp (show v_ < 2 ^ 31 by omega), c2]; done) | (simp_all [kPass, mP, sP, inP, cl, alwP, alwM, cvP, whP]; done)) (by decide)) (by decide) (by decide) dX5_pass_35 dX5_pass_38 dX5_pass_39 dX5_pass_41 dX5_pass_44 (by decide) (by decide)
  · have c1 := bI_0 c1
    refine z_throw (rest := []) (cls := "java/lang/IllegalArgumentException") (text := "weeks is out of range") hfl S hlocks hX hJ hK hP hD hS (rfl) hl.1 (by decide) qk_X5_85 qn_IllegalArgumentException at_IAE_g (fun w h => zBadX_in.1 w (at_IAE_b w h)) at_IAE_t (by decide) (z_k0 (k := 1) (by first | (simp only [kPass, mP, sP, inP, cl, alwP, alwM, cvP, whP, c1, not_true_eq_false, not_false_eq_true, and_self, and_true, true_and, and_false, false_and, or_true, true_or, or_false, false_or, if_true, if_false, ite_true, ite_false]; done) | (simp [kPass, mP, sP, inP, cl, alwP, alwM, cvP, whP, c1]; done) | (simp_all [kPass, mP, sP, inP, cl, alwP, alwM, cvP, whP]; done)) (by decide)) (z_kE (k := 1) (by first | (simp only [kPass, mP, sP, inP, cl, alwP, alwM, cvP, whP, c1, not_true_eq_false, not_false_eq_true, and_self, and_true, true_and, and_false, false_and, or_true, true_or, or_false, false_or, if_true, if_false, ite_true, ite_false]; done) | (simp [kPass, mP, sP, inP, cl, alwP, alwM, cvP, whP, c1]; done) | (simp_all [kPass, mP, sP, inP, cl, alwP, alwM, cvP, whP]; done)) (by decide)) (by decide) (by decide) dX5_pass_10 dX5_pass_13 dX5_pass_14 dX5_pass_16 dX5_pass_19 (by decide) (by decide)
set_option maxHeartbeats 4000000 in
set_option maxRecDepth 100000 in
theorem c_X5_set (hfl : l.stackTraces = false) {n : Nat} (hn : n ≤ 8) (hz : z 5 = nI n) {nx kp : Nat} (hnx : nx < 6) (hkp : kp ≤ 6) (hB : hBool z) (st v : Int32) : zX l D (zT cI cC cM cB cJ) yX5_set cX5_set 4 (some .int) ({ frames := 6, cells := 1, slots := 6, locals := 90 } : Room) [.ref x, .int st, .int v] (bkW cI cM ad z (txW cC t sg sz r (xoW x ad h t (hsW cB h ah (nI nx) (nI kp) (hbW cI cM ah zh wr))))) (bkW cI cM ad (upd z (cl st) v) (txW cC t sg sz r (xoW x ad h t (hsW cB h ah (nI ((nx + 1) % 6)) (nI (min (kp + 1) 6)) (hbW cI cM ah (zup zh nx z) wr))))) (bkW cI cM ad z (txW cC t sg sz r (xoW x ad h t (hsW cB h ah (nI nx) (nI kp) (hbW cI cM ah zh wr))))) (some (.int (z (cl st)))) "java/lang/IndexOutOfBoundsException" "java/lang/IllegalArgumentException" "" (kSet st v) 1 6 := by
  refine z_enterX (by decide) (Nat.le_of_ble_eq_true rfl) ?_
  intro p e s m below meth c A S hr hlocks hX hJ hN hA hK hP hD hS ls hl
  obtain ⟨hx, hb, hml, hown, hts⟩ := id S
  have hl : lv_has ls 4 [(0, .ref x), (1, .int st), (2, .int v)] := hl
  have hP : va_P D vwCl (bkW cI cM ad z (txW cC t sg sz r (xoW x ad h t (hsW cB h ah (nI nx) (nI kp) (hbW cI cM ah zh wr))))) s.heap := hP
  have hD : va_D A (bkW cI cM ad z (txW cC t sg sz r (xoW x ad h t (hsW cB h ah (nI nx) (nI kp) (hbW cI cM ah zh wr))))) := hD
  refine lv_iload_n hx hb dX5_set_0 rfl (lv_at hl 1 rfl) ?_
  refine z_callS1 (rest := []) S (c_X5_isSetting st) qm_X5_122 t_X5_isSetting ⟨Nat.le_of_ble_eq_true rfl, Nat.le_of_ble_eq_true rfl⟩ rfl rfl hN hK hP hD hS hA rfl hl.1 rfl (Nat.le_of_ble_eq_true rfl) dX5_set_1 ⟨Nat.le_of_ble_eq_true rfl, Nat.le_of_ble_eq_true rfl⟩ (fun H locs hP hD hS => ?_)
  refine lv_if_ne (tgt := 17) hx hb dX5_set_4 (by decide) (fun c1 => ?_) (fun c1 => ?_)
  · have c1 := bI_1 c1
    obtain ⟨k_, hk_, rfl⟩ := skl_nat c1
    refine lv_iload_n hx hb dX5_set_17 rfl (lv_at hl 2 rfl) ?_
    refine lv_iconst (v := 0) hx hb dX5_set_18 (by decide) ?_
    obtain ⟨tg_, hz_, ht_⟩ := hJ.2.2.2.2
    refine va_gets hx hb hz_ hS hown (hts _ qf_X5_127) (fun _ h9 => h9) dX5_set_19 ?_
    refine lv_iload_n hx hb dX5_set_22 rfl (lv_at hl 1 rfl) ?_
    refine va_ti (v := .int (gsA k_)) hx hb ht_ hS (vp_in_nI (show k_ < 5 by omega) (by omega)) (congrArg (fun q => Value.int (gsA q)) (z_cl rfl)) dX5_set_23 ?_
    refine z_callS1 (rest := []) S (c_X5_isWithin v 0 (gsA k_)) qm_X5_100 t_X5_isWithin ⟨Nat.le_of_ble_eq_true rfl, Nat.le_of_ble_eq_true rfl⟩ rfl rfl hN hK hP hD hS hA rfl hl.1 rfl (Nat.le_of_ble_eq_true rfl) dX5_set_24 ⟨Nat.le_of_ble_eq_true rfl, Nat.le_of_ble_eq_true rfl⟩ (fun H locs hP hD hS => ?_)
    refine lv_if_ne (tgt := 40) hx hb dX5_set_27 (by decide) (fun c2 => ?_) (fun c2 => ?_)
    · have c2 := bI_1 c2
      refine lv_aload_n hx hb dX5_set_40 rfl (lv_at hl 0 rfl) ?_
      refine va_get (v := .ref (h 0)) hx hb hts inTX5 hown hK hP (19 + (3 + (0))) ((bk_r).trans ((tx_r).trans (xo_0))) rfl 1 (by decide) (hts _ qf_X5_19) (fun _ h9 => h9) (rfl) dX5_set_41 ?_
      refine lv_aload_n hx hb dX5_set_44 rfl (lv_at hl 0 rfl) ?_
      refine va_get (v := .ref (ad 0)) hx hb hts inTX5 hown hK hP (19 + (3 + (0))) ((bk_r).trans ((tx_r).trans (xo_0))) rfl 0 (by decide) (hts _ qf_X5_10) (fun _ h9 => h9) (rfl) dX5_set_45 ?_
      refine z_callV0 (rest := []) S (c_X3_keep hnx hkp hB) qm_X5_41 v_X3_keep ⟨Nat.le_of_ble_eq_true rfl, Nat.le_of_ble_eq_true rfl⟩ rfl rfl hN hK hP hD hS hA (19 + (3 + (1 + (0)))) ((bk_r).trans ((tx_r).trans ((xo_r).trans (hs_0)))) rfl rfl hl.1 rfl (Nat.le_of_ble_eq_true rfl) dX5_set_48 ⟨Nat.le_of_ble_eq_true rfl, Nat.le_of_ble_eq_true rfl⟩ (fun H locs hP hD hS => ?_)
      refine lv_aload_n hx hb dX5_set_51 rfl (lv_at hl 0 rfl) ?_
      refine va_get (v := .ref (ad 0)) hx hb hts inTX5 hown hK hP (19 + (3 + (0))) ((bk_r).trans ((tx_r).trans (xo_0))) rfl 0 (by decide) (hts _ qf_X5_10) (fun _ h9 => h9) (rfl) dX5_set_52 ?_
      refine va_get (v := .ref (ad 2)) hx hb hts inTX0 hown hK hP (0) (bk_0) rfl 1 (by decide) (hts _ qf_X5_133) (fun _ h9 => h9) (rfl) dX5_set_55 ?_
      refine lv_iload_n hx hb dX5_set_58 rfl (lv_at hl 1 rfl) ?_
      refine va_iald hx hb hK hP (2) 0 (bk_2) rfl (vp_in_nI (show k_ < 5 by omega) (by omega)) dX5_set_59 ?_
      refine z_top (v2 := .int (z k_)) (congrArg Value.int ((sfn_at rfl (show k_ < 5 by omega)).trans (rfl))) ?_
      refine lv_istore_n (lv' := [(3, .int (z k_)), (0, .ref x), (1, .int (nI k_)), (2, .int v)]) hx hb dX5_set_60 rfl hl (by decide) rfl (fun ls hl => ?_)
      refine lv_aload_n hx hb dX5_set_61 rfl (lv_at hl 1 rfl) ?_
      refine va_get (v := .ref (ad 0)) hx hb hts inTX5 hown hK hP (19 + (3 + (0))) ((bk_r).trans ((tx_r).trans (xo_0))) rfl 0 (by decide) (hts _ qf_X5_10) (fun _ h9 => h9) (rfl) dX5_set_62 ?_
      refine va_get (v := .ref (ad 2)) hx hb hts inTX0 hown hK hP (0) (bk_0) rfl 1 (by decide) (hts _ qf_X5_133) (fun _ h9 => h9) (rfl) dX5_set_65 ?_
      refine lv_iload_n hx hb dX5_set_68 rfl (lv_at hl 2 rfl) ?_
      refine lv_iload_n hx hb dX5_set_69 rfl (lv_at hl 3 rfl) ?_
      refine z_iast (ws2 := bkW cI cM ad (upd z k_ v) (txW cC t sg sz r (xoW x ad h t (hsW cB h ah (nI ((nx + 1) % 6)) (nI (min (kp + 1) 6)) (hbW cI cM ah (zup zh nx z) wr))))) hx hb hK hP hD hS (2) 0 (bk_2) rfl (vp_in_nI (show k_ < 5 by omega) (by omega)) dX5_set_70 (z_ixw rfl (by omega) (fun q_ => (bkW cI cM ad z (txW cC t sg sz r (xoW x ad h t (hsW cB h ah (nI ((nx + 1) % 6)) (nI (min (kp + 1) 6)) (hbW cI cM ah (zup zh nx z) wr))))).set 2 (ad 2, .inl (cI, 5, .inl (upd (sfn z) q_ v)))) (bk_w2 (show k_ < 5 by omega))) (fun H locs hP hD hS => ?_)
      refine lv_iload_n hx hb dX5_set_71 rfl (lv_at hl 0 rfl) ?_
      refine W.widen (k := 1) (n := 6) (by decide) (by decide) ?_
      exact z_xiret hx hb hr hlocks hP hD hK hS (by first | (simp only [kSet, mP, sP, inP, cl, alwP, alwM, cvP, whP, c1, nI_clamp (show k_ < 2 ^ 31 by omega), c2, not_true_eq_false, not_false_eq_true, and_self, and_true, true_and, and_false, false_and, or_true, true_or, or_false, false_or, if_true, if_false, ite_true, ite_false]; done) | (simp [kSet, mP, sP, inP, cl, alwP, alwM, cvP, whP, c1, nI_clamp (show k_ < 2 ^ 31 by omega), c2]; done) | (simp_all [kSet, mP, sP, inP, cl, alwP, alwM, cvP, whP]; done)) (by first | rfl | (simp only [minP, maxP, c1, nI_clamp (show k_ < 2 ^ 31 by omega), c2, not_true_eq_false, not_false_eq_true, and_self, and_true, true_and, and_false, false_and, or_true, true_or, or_false, false_or, if_true, if_false, ite_true, ite_false]; done) | (simp [minP, maxP, c1, nI_clamp (show k_ < 2 ^ 31 by omega), c2]; done) | (simp_all [minP, maxP]; done)) (by first | rfl | (simp only [minP, maxP, c1, nI_clamp (show k_ < 2 ^ 31 by omega), c2, not_true_eq_false, not_false_eq_true, and_self, and_true, true_and, and_false, false_and, or_true, true_or, or_false, false_or, if_true, if_false, ite_true, ite_false]; done) | (simp [minP, maxP, c1, nI_clamp (show k_ < 2 ^ 31 by omega), c2]; done) | (simp_all [minP, maxP]; done)) dX5_set_72
    · have c2 := bI_0 c2
      refine z_throw (rest := []) (cls := "java/lang/IllegalArgumentException") (text := "value is out of range") hfl S hlocks hX hJ hK hP hD hS (rfl) hl.1 (by decide) qk_X5_85 qn_IllegalArgumentException at_IAE_g (fun w h => zBadX_in.1 w (at_IAE_b w h)) at_IAE_t (by decide) (z_k0 (k := 2) (by first | (simp only [kSet, mP, sP, inP, cl, alwP, alwM, cvP, whP, c1, nI_clamp (show k_ < 2 ^ 31 by omega), c2, not_true_eq_false, not_false_eq_true, and_self, and_true, true_and, and_false, false_and, or_true, true_or, or_false, false_or, if_true, if_false, ite_true, ite_false]; done) | (simp [kSet, mP, sP, inP, cl, alwP, alwM, cvP, whP, c1, nI_clamp (show k_ < 2 ^ 31 by omega), c2]; done) | (simp_all [kSet, mP, sP, inP, cl, alwP, alwM, cvP, whP]; done)) (by decide)) (z_kE (k := 2) (by first | (simp only [kSet, mP, sP, inP, cl, alwP, alwM, cvP, whP, c1, nI_clamp (show k_ < 2 ^ 31 by omega), c2, not_true_eq_false, not_false_eq_true, and_self, and_true, true_and, and_false, false_and, or_true, true_or, or_false, false_or, if_true, if_false, ite_true, ite_false]; done) | (simp [kSet, mP, sP, inP, cl, alwP, alwM, cvP, whP, c1, nI_clamp (show k_ < 2 ^ 31 by omega), c2]; done) | (simp_all [kSet, mP, sP, inP, cl, alwP, alwM, cvP, whP]; done)) (by decide)) (by decide) (by decide) dX5_set_30 dX5_set_33 dX5_set_34 dX5_set_36 dX5_set_39 (by decide) (by decide)
  · have c1 := bI_0 c1
    refine z_throw (rest := []) (cls := "java/lang/IndexOutOfBoundsException") (text := "no such setting") hfl S hlocks hX hJ hK hP hD hS (rfl) hl.1 (by decide) qk_X5_53 qn_IndexOutOfBoundsException at_IOB_g (fun w h => zBadX_in.2.2 w (at_IOB_b w h)) at_IOB_t (by decide) (z_k0 (k := 1) (by first | (simp only [kSet, mP, sP, inP, cl, alwP, alwM, cvP, whP, c1, not_true_eq_false, not_false_eq_true, and_self, and_true, true_and, and_false, false_and, or_true, true_or, or_false, false_or, if_true, if_false, ite_true, ite_false]; done) | (simp [kSet, mP, sP, inP, cl, alwP, alwM, cvP, whP, c1]; done) | (simp_all [kSet, mP, sP, inP, cl, alwP, alwM, cvP, whP]; done)) (by decide)) (z_kE (k := 1) (by first | (simp only [kSet, mP, sP, inP, cl, alwP, alwM, cvP, whP, c1, not_true_eq_false, not_false_eq_true, and_self, and_true, true_and, and_false, false_and, or_true, true_or, or_false, false_or, if_true, if_false, ite_true, ite_false]; done) | (simp [kSet, mP, sP, inP, cl, alwP, alwM, cvP, whP, c1]; done) | (simp_all [kSet, mP, sP, inP, cl, alwP, alwM, cvP, whP]; done)) (by decide)) (by decide) (by decide) dX5_set_7 dX5_set_10 dX5_set_11 dX5_set_13 dX5_set_16 (by decide) (by decide)
set_option maxHeartbeats 4000000 in
set_option maxRecDepth 100000 in
theorem c_X5_move (hfl : l.stackTraces = false) {n : Nat} (hn : n ≤ 8) (hz : z 5 = nI n) {nx kp : Nat} (hnx : nx < 6) (hkp : kp ≤ 6) (hB : hBool z) (mb mn : Int32) : zX l D (zT cI cC cM cB cJ) yX5_move cX5_move 3 (some .int) ({ frames := 6, cells := 1, slots := 6, locals := 90 } : Room) [.ref x, .int mb, .int mn] (bkW cI cM ad z (txW cC t sg sz r (xoW x ad h t (hsW cB h ah (nI nx) (nI kp) (hbW cI cM ah zh wr))))) (bkW cI cM ad (upd (upd z 10 mb) 11 mn) (txW cC t sg sz r (xoW x ad h t (hsW cB h ah (nI ((nx + 1) % 6)) (nI (min (kp + 1) 6)) (hbW cI cM ah (zup zh nx z) wr))))) (bkW cI cM ad z (txW cC t sg sz r (xoW x ad h t (hsW cB h ah (nI nx) (nI kp) (hbW cI cM ah zh wr))))) (some (.int (cntT (upd (upd z 10 mb) 11 mn) n - 1))) "java/lang/IndexOutOfBoundsException" "java/lang/IllegalArgumentException" "java/lang/IllegalStateException" (kMove z n mb mn) 1 6 := by
  refine z_enterX (by decide) (Nat.le_of_ble_eq_true rfl) ?_
  intro p e s m below meth c A S hr hlocks hX hJ hN hA hK hP hD hS ls hl
  obtain ⟨hx, hb, hml, hown, hts⟩ := id S
  have hl : lv_has ls 3 [(0, .ref x), (1, .int mb), (2, .int mn)] := hl
  have hP : va_P D vwCl (bkW cI cM ad z (txW cC t sg sz r (xoW x ad h t (hsW cB h ah (nI nx) (nI kp) (hbW cI cM ah zh wr))))) s.heap := hP
  have hD : va_D A (bkW cI cM ad z (txW cC t sg sz r (xoW x ad h t (hsW cB h ah (nI nx) (nI kp) (hbW cI cM ah zh wr))))) := hD
  refine lv_aload_n hx hb dX5_move_0 rfl (lv_at hl 0 rfl) ?_
  refine va_get (v := .ref (ad 0)) hx hb hts inTX5 hown hK hP (19 + (3 + (0))) ((bk_r).trans ((tx_r).trans (xo_0))) rfl 0 (by decide) (hts _ qf_X5_10) (fun _ h9 => h9) (rfl) dX5_move_1 ?_
  refine lv_iload_n hx hb dX5_move_4 rfl (lv_at hl 1 rfl) ?_
  refine z_callV1 (rest := []) S (c_X0_isMember (n := n) (show n ≤ 8 by omega) (hz) mb) qm_X5_49 v_X0_isMember ⟨Nat.le_of_ble_eq_true rfl, Nat.le_of_ble_eq_true rfl⟩ rfl rfl hN hK hP hD hS hA (0) (bk_0) rfl rfl hl.1 rfl (Nat.le_of_ble_eq_true rfl) dX5_move_5 ⟨Nat.le_of_ble_eq_true rfl, Nat.le_of_ble_eq_true rfl⟩ (fun H locs hP hD hS => ?_)
  refine lv_if_ne (tgt := 21) hx hb dX5_move_8 (by decide) (fun c1 => ?_) (fun c1 => ?_)
  · have c1 := bI_1 c1
    obtain ⟨j, hj, rfl⟩ := mem_nat hn c1
    refine lv_iload_n hx hb dX5_move_21 rfl (lv_at hl 2 rfl) ?_
    refine lv_iconst (v := 1) hx hb dX5_move_22 (by decide) ?_
    refine lv_icmp_ge (tgt := 36) hx hb dX5_move_23 (by decide) (fun c2 => ?_) (fun c2 => ?_)
    · have c2 := z_nlt c2
      refine lv_aload_n hx hb dX5_move_36 rfl (lv_at hl 0 rfl) ?_
      refine va_get (v := .ref (ad 0)) hx hb hts inTX5 hown hK hP (19 + (3 + (0))) ((bk_r).trans ((tx_r).trans (xo_0))) rfl 0 (by decide) (hts _ qf_X5_10) (fun _ h9 => h9) (rfl) dX5_move_37 ?_
      refine lv_iload_n hx hb dX5_move_40 rfl (lv_at hl 1 rfl) ?_
      refine lv_iload_n hx hb dX5_move_41 rfl (lv_at hl 2 rfl) ?_
      refine z_callV1 (rest := []) S (c_X0_allowsMotion j (show j < 8 by omega) mn) qm_X5_138 v_X0_allowsMotion ⟨Nat.le_of_ble_eq_true rfl, Nat.le_of_ble_eq_true rfl⟩ rfl rfl hN hK hP hD hS hA (0) (bk_0) rfl rfl hl.1 rfl (Nat.le_of_ble_eq_true rfl) dX5_move_42 ⟨Nat.le_of_ble_eq_true rfl, Nat.le_of_ble_eq_true rfl⟩ (fun H locs hP hD hS => ?_)
      refine lv_if_ne (tgt := 58) hx hb dX5_move_45 (by decide) (fun c3 => ?_) (fun c3 => ?_)
      · have c3 := bI_1 c3
        refine lv_aload_n hx hb dX5_move_58 rfl (lv_at hl 0 rfl) ?_
        refine va_get (v := .ref (h 0)) hx hb hts inTX5 hown hK hP (19 + (3 + (0))) ((bk_r).trans ((tx_r).trans (xo_0))) rfl 1 (by decide) (hts _ qf_X5_19) (fun _ h9 => h9) (rfl) dX5_move_59 ?_
        refine lv_aload_n hx hb dX5_move_62 rfl (lv_at hl 0 rfl) ?_
        refine va_get (v := .ref (ad 0)) hx hb hts inTX5 hown hK hP (19 + (3 + (0))) ((bk_r).trans ((tx_r).trans (xo_0))) rfl 0 (by decide) (hts _ qf_X5_10) (fun _ h9 => h9) (rfl) dX5_move_63 ?_
        refine z_callV0 (rest := []) S (c_X3_keep hnx hkp hB) qm_X5_41 v_X3_keep ⟨Nat.le_of_ble_eq_true rfl, Nat.le_of_ble_eq_true rfl⟩ rfl rfl hN hK hP hD hS hA (19 + (3 + (1 + (0)))) ((bk_r).trans ((tx_r).trans ((xo_r).trans (hs_0)))) rfl rfl hl.1 rfl (Nat.le_of_ble_eq_true rfl) dX5_move_66 ⟨Nat.le_of_ble_eq_true rfl, Nat.le_of_ble_eq_true rfl⟩ (fun H locs hP hD hS => ?_)
        refine lv_aload_n hx hb dX5_move_69 rfl (lv_at hl 0 rfl) ?_
        refine va_get (v := .ref (ad 0)) hx hb hts inTX5 hown hK hP (19 + (3 + (0))) ((bk_r).trans ((tx_r).trans (xo_0))) rfl 0 (by decide) (hts _ qf_X5_10) (fun _ h9 => h9) (rfl) dX5_move_70 ?_
        refine lv_iload_n hx hb dX5_move_73 rfl (lv_at hl 1 rfl) ?_
        refine lv_iload_n hx hb dX5_move_74 rfl (lv_at hl 2 rfl) ?_
        refine z_callV0 (rest := []) S (c_X0_openMotion (nI j) mn) qm_X5_144 v_X0_openMotion ⟨Nat.le_of_ble_eq_true rfl, Nat.le_of_ble_eq_true rfl⟩ rfl rfl hN hK hP hD hS hA (0) (bk_0) rfl rfl hl.1 rfl (Nat.le_of_ble_eq_true rfl) dX5_move_75 ⟨Nat.le_of_ble_eq_true rfl, Nat.le_of_ble_eq_true rfl⟩ (fun H locs hP hD hS => ?_)
        refine lv_aload_n hx hb dX5_move_78 rfl (lv_at hl 0 rfl) ?_
        refine va_get (v := .ref (ad 0)) hx hb hts inTX5 hown hK hP (19 + (3 + (0))) ((bk_r).trans ((tx_r).trans (xo_0))) rfl 0 (by decide) (hts _ qf_X5_10) (fun _ h9 => h9) (rfl) dX5_move_79 ?_
        refine z_callV1 (rest := []) S (c_X0_countVoters (n := n) (show n ≤ 8 by omega) ((upd_ne (by omega)).trans ((upd_ne (by omega)).trans (hz)))) qm_X5_147 v_X0_countVoters ⟨Nat.le_of_ble_eq_true rfl, Nat.le_of_ble_eq_true rfl⟩ rfl rfl hN hK hP hD hS hA (0) (bk_0) rfl rfl hl.1 rfl (Nat.le_of_ble_eq_true rfl) dX5_move_82 ⟨Nat.le_of_ble_eq_true rfl, Nat.le_of_ble_eq_true rfl⟩ (fun H locs hP hD hS => ?_)
        refine W.widen (k := 1) (n := 6) (by decide) (by decide) ?_
        exact z_xiret hx hb hr hlocks hP hD hK hS (by first | (simp only [kMove, mP, sP, inP, cl, alwP, alwM, cvP, whP, c1, nI_clamp (show j < 2 ^ 31 by omega), c2, c3, not_true_eq_false, not_false_eq_true, and_self, and_true, true_and, and_false, false_and, or_true, true_or, or_false, false_or, if_true, if_false, ite_true, ite_false]; done) | (simp [kMove, mP, sP, inP, cl, alwP, alwM, cvP, whP, c1, nI_clamp (show j < 2 ^ 31 by omega), c2, c3]; done) | (simp_all [kMove, mP, sP, inP, cl, alwP, alwM, cvP, whP]; done)) (by first | rfl | (simp only [minP, maxP, c1, nI_clamp (show j < 2 ^ 31 by omega), c2, c3, not_true_eq_false, not_false_eq_true, and_self, and_true, true_and, and_false, false_and, or_true, true_or, or_false, false_or, if_true, if_false, ite_true, ite_false]; done) | (simp [minP, maxP, c1, nI_clamp (show j < 2 ^ 31 by omega), c2, c3]; done) | (simp_all [minP, maxP]; done)) (by first | rfl | (simp only [minP, maxP, c1, nI_clamp (show j < 2 ^ 31 by omega), c2, c3, not_true_eq_false, not_false_eq_true, and_self, and_true, true_and, and_false, false_and, or_true, true_or, or_false, false_or, if_true, if_false, ite_true, ite_false]; done) | (simp [minP, maxP, c1, nI_clamp (show j < 2 ^ 31 by omega), c2, c3]; done) | (simp_all [minP, maxP]; done)) dX5_move_85
      · have c3 := bI_0 c3
        refine z_throw (rest := []) (cls := "java/lang/IllegalStateException") (text := "the member has left, there is a motion, or the debt is less") hfl S hlocks hX hJ hK hP hD hS (rfl) hl.1 (by decide) qk_X5_34 qn_IllegalStateException at_ISE_g (fun w h => zBadX_in.2.1 w (at_ISE_b w h)) at_ISE_t (by decide) (z_k0 (k := 3) (by first | (simp only [kMove, mP, sP, inP, cl, alwP, alwM, cvP, whP, c1, nI_clamp (show j < 2 ^ 31 by omega), c2, c3, not_true_eq_false, not_false_eq_true, and_self, and_true, true_and, and_false, false_and, or_true, true_or, or_false, false_or, if_true, if_false, ite_true, ite_false]; done) | (simp [kMove, mP, sP, inP, cl, alwP, alwM, cvP, whP, c1, nI_clamp (show j < 2 ^ 31 by omega), c2, c3]; done) | (simp_all [kMove, mP, sP, inP, cl, alwP, alwM, cvP, whP]; done)) (by decide)) (z_kE (k := 3) (by first | (simp only [kMove, mP, sP, inP, cl, alwP, alwM, cvP, whP, c1, nI_clamp (show j < 2 ^ 31 by omega), c2, c3, not_true_eq_false, not_false_eq_true, and_self, and_true, true_and, and_false, false_and, or_true, true_or, or_false, false_or, if_true, if_false, ite_true, ite_false]; done) | (simp [kMove, mP, sP, inP, cl, alwP, alwM, cvP, whP, c1, nI_clamp (show j < 2 ^ 31 by omega), c2, c3]; done) | (simp_all [kMove, mP, sP, inP, cl, alwP, alwM, cvP, whP]; done)) (by decide)) (by decide) (by decide) dX5_move_48 dX5_move_51 dX5_move_52 dX5_move_54 dX5_move_57 (by decide) (by decide)
    · have c2 := z_lt c2
      refine z_throw (rest := []) (cls := "java/lang/IllegalArgumentException") (text := "minutes is below 1") hfl S hlocks hX hJ hK hP hD hS (rfl) hl.1 (by decide) qk_X5_85 qn_IllegalArgumentException at_IAE_g (fun w h => zBadX_in.1 w (at_IAE_b w h)) at_IAE_t (by decide) (z_k0 (k := 2) (by first | (simp only [kMove, mP, sP, inP, cl, alwP, alwM, cvP, whP, c1, nI_clamp (show j < 2 ^ 31 by omega), c2, not_true_eq_false, not_false_eq_true, and_self, and_true, true_and, and_false, false_and, or_true, true_or, or_false, false_or, if_true, if_false, ite_true, ite_false]; done) | (simp [kMove, mP, sP, inP, cl, alwP, alwM, cvP, whP, c1, nI_clamp (show j < 2 ^ 31 by omega), c2]; done) | (simp_all [kMove, mP, sP, inP, cl, alwP, alwM, cvP, whP]; done)) (by decide)) (z_kE (k := 2) (by first | (simp only [kMove, mP, sP, inP, cl, alwP, alwM, cvP, whP, c1, nI_clamp (show j < 2 ^ 31 by omega), c2, not_true_eq_false, not_false_eq_true, and_self, and_true, true_and, and_false, false_and, or_true, true_or, or_false, false_or, if_true, if_false, ite_true, ite_false]; done) | (simp [kMove, mP, sP, inP, cl, alwP, alwM, cvP, whP, c1, nI_clamp (show j < 2 ^ 31 by omega), c2]; done) | (simp_all [kMove, mP, sP, inP, cl, alwP, alwM, cvP, whP]; done)) (by decide)) (by decide) (by decide) dX5_move_26 dX5_move_29 dX5_move_30 dX5_move_32 dX5_move_35 (by decide) (by decide)
  · have c1 := bI_0 c1
    refine z_throw (rest := []) (cls := "java/lang/IndexOutOfBoundsException") (text := "no such member") hfl S hlocks hX hJ hK hP hD hS (rfl) hl.1 (by decide) qk_X5_53 qn_IndexOutOfBoundsException at_IOB_g (fun w h => zBadX_in.2.2 w (at_IOB_b w h)) at_IOB_t (by decide) (z_k0 (k := 1) (by first | (simp only [kMove, mP, sP, inP, cl, alwP, alwM, cvP, whP, c1, not_true_eq_false, not_false_eq_true, and_self, and_true, true_and, and_false, false_and, or_true, true_or, or_false, false_or, if_true, if_false, ite_true, ite_false]; done) | (simp [kMove, mP, sP, inP, cl, alwP, alwM, cvP, whP, c1]; done) | (simp_all [kMove, mP, sP, inP, cl, alwP, alwM, cvP, whP]; done)) (by decide)) (z_kE (k := 1) (by first | (simp only [kMove, mP, sP, inP, cl, alwP, alwM, cvP, whP, c1, not_true_eq_false, not_false_eq_true, and_self, and_true, true_and, and_false, false_and, or_true, true_or, or_false, false_or, if_true, if_false, ite_true, ite_false]; done) | (simp [kMove, mP, sP, inP, cl, alwP, alwM, cvP, whP, c1]; done) | (simp_all [kMove, mP, sP, inP, cl, alwP, alwM, cvP, whP]; done)) (by decide)) (by decide) (by decide) dX5_move_11 dX5_move_14 dX5_move_15 dX5_move_17 dX5_move_20 (by decide) (by decide)
set_option maxHeartbeats 4000000 in
set_option maxRecDepth 100000 in
theorem c_X5_vote_b (hfl : l.stackTraces = false) {n : Nat} (hn : n ≤ 8) (hz : z 5 = nI n) {nx kp : Nat} (hnx : nx < 6) (hkp : kp ≤ 6) (hB : hBool z) {d : Nat} (hd : d < n) (hz2 : z 10 = nI d) (mb bf : Int32) : zX l D (zT cI cC cM cB cJ) yX5_vote cX5_vote 3 (some .int) ({ frames := 6, cells := 1, slots := 6, locals := 90 } : Room) [.ref x, .int mb, .int bf] (bkW cI cM ad z (txW cC t sg sz r (xoW x ad h t (hsW cB h ah (nI nx) (nI kp) (hbW cI cM ah zh wr))))) (bkW cI cM ad (setZ (upd z (142 + cl mb) (if bf = 0 then 2 else 1)) n d) (txW cC t sg sz r (xoW x ad h t (hsW cB h ah (nI ((nx + 1) % 6)) (nI (min (kp + 1) 6)) (hbW cI cM ah (zup zh nx z) wr))))) (bkW cI cM ad z (txW cC t sg sz r (xoW x ad h t (hsW cB h ah (nI nx) (nI kp) (hbW cI cM ah zh wr))))) (some (.int (setR (upd z (142 + cl mb) (if bf = 0 then 2 else 1)) n))) "java/lang/IndexOutOfBoundsException" "java/lang/IllegalStateException" "" (kVote z n mb) 1 6 := by
  refine z_enterX (by decide) (Nat.le_of_ble_eq_true rfl) ?_
  intro p e s m below meth c A S hr hlocks hX hJ hN hA hK hP hD hS ls hl
  obtain ⟨hx, hb, hml, hown, hts⟩ := id S
  have hl : lv_has ls 3 [(0, .ref x), (1, .int mb), (2, .int bf)] := hl
  have hP : va_P D vwCl (bkW cI cM ad z (txW cC t sg sz r (xoW x ad h t (hsW cB h ah (nI nx) (nI kp) (hbW cI cM ah zh wr))))) s.heap := hP
  have hD : va_D A (bkW cI cM ad z (txW cC t sg sz r (xoW x ad h t (hsW cB h ah (nI nx) (nI kp) (hbW cI cM ah zh wr))))) := hD
  refine lv_aload_n hx hb dX5_vote_0 rfl (lv_at hl 0 rfl) ?_
  refine va_get (v := .ref (ad 0)) hx hb hts inTX5 hown hK hP (19 + (3 + (0))) ((bk_r).trans ((tx_r).trans (xo_0))) rfl 0 (by decide) (hts _ qf_X5_10) (fun _ h9 => h9) (rfl) dX5_vote_1 ?_
  refine lv_iload_n hx hb dX5_vote_4 rfl (lv_at hl 1 rfl) ?_
  refine z_callV1 (rest := []) S (c_X0_isMember (n := n) (show n ≤ 8 by omega) (hz) mb) qm_X5_49 v_X0_isMember ⟨Nat.le_of_ble_eq_true rfl, Nat.le_of_ble_eq_true rfl⟩ rfl rfl hN hK hP hD hS hA (0) (bk_0) rfl rfl hl.1 rfl (Nat.le_of_ble_eq_true rfl) dX5_vote_5 ⟨Nat.le_of_ble_eq_true rfl, Nat.le_of_ble_eq_true rfl⟩ (fun H locs hP hD hS => ?_)
  refine lv_if_ne (tgt := 21) hx hb dX5_vote_8 (by decide) (fun c1 => ?_) (fun c1 => ?_)
  · have c1 := bI_1 c1
    obtain ⟨j, hj, rfl⟩ := mem_nat hn c1
    refine lv_aload_n hx hb dX5_vote_21 rfl (lv_at hl 0 rfl) ?_
    refine va_get (v := .ref (ad 0)) hx hb hts inTX5 hown hK hP (19 + (3 + (0))) ((bk_r).trans ((tx_r).trans (xo_0))) rfl 0 (by decide) (hts _ qf_X5_10) (fun _ h9 => h9) (rfl) dX5_vote_22 ?_
    refine lv_iload_n hx hb dX5_vote_25 rfl (lv_at hl 1 rfl) ?_
    refine z_callV1 (rest := []) S (c_X0_canVote j (show j < 8 by omega)) qm_X5_150 v_X0_canVote ⟨Nat.le_of_ble_eq_true rfl, Nat.le_of_ble_eq_true rfl⟩ rfl rfl hN hK hP hD hS hA (0) (bk_0) rfl rfl hl.1 rfl (Nat.le_of_ble_eq_true rfl) dX5_vote_26 ⟨Nat.le_of_ble_eq_true rfl, Nat.le_of_ble_eq_true rfl⟩ (fun H locs hP hD hS => ?_)
    refine lv_if_ne (tgt := 42) hx hb dX5_vote_29 (by decide) (fun c2 => ?_) (fun c2 => ?_)
    · have c2 := bI_1 c2
      refine lv_aload_n hx hb dX5_vote_42 rfl (lv_at hl 0 rfl) ?_
      refine va_get (v := .ref (h 0)) hx hb hts inTX5 hown hK hP (19 + (3 + (0))) ((bk_r).trans ((tx_r).trans (xo_0))) rfl 1 (by decide) (hts _ qf_X5_19) (fun _ h9 => h9) (rfl) dX5_vote_43 ?_
      refine lv_aload_n hx hb dX5_vote_46 rfl (lv_at hl 0 rfl) ?_
      refine va_get (v := .ref (ad 0)) hx hb hts inTX5 hown hK hP (19 + (3 + (0))) ((bk_r).trans ((tx_r).trans (xo_0))) rfl 0 (by decide) (hts _ qf_X5_10) (fun _ h9 => h9) (rfl) dX5_vote_47 ?_
      refine z_callV0 (rest := []) S (c_X3_keep hnx hkp hB) qm_X5_41 v_X3_keep ⟨Nat.le_of_ble_eq_true rfl, Nat.le_of_ble_eq_true rfl⟩ rfl rfl hN hK hP hD hS hA (19 + (3 + (1 + (0)))) ((bk_r).trans ((tx_r).trans ((xo_r).trans (hs_0)))) rfl rfl hl.1 rfl (Nat.le_of_ble_eq_true rfl) dX5_vote_50 ⟨Nat.le_of_ble_eq_true rfl, Nat.le_of_ble_eq_true rfl⟩ (fun H locs hP hD hS => ?_)
      refine lv_aload_n hx hb dX5_vote_53 rfl (lv_at hl 0 rfl) ?_
      refine va_get (v := .ref (ad 0)) hx hb hts inTX5 hown hK hP (19 + (3 + (0))) ((bk_r).trans ((tx_r).trans (xo_0))) rfl 0 (by decide) (hts _ qf_X5_10) (fun _ h9 => h9) (rfl) dX5_vote_54 ?_
      refine va_get (v := .ref (ad 1)) hx hb hts inTX0 hown hK hP (0) (bk_0) rfl 0 (by decide) (hts _ qf_X5_58) (fun _ h9 => h9) (rfl) dX5_vote_57 ?_
      refine lv_iload_n hx hb dX5_vote_60 rfl (lv_at hl 1 rfl) ?_
      refine va_aldq hx hb hK hP (1) 2 (bk_1) rfl (vp_in_nI (show j < 8 by omega) (by omega)) dX5_vote_61 ?_
      refine z_top (v2 := .ref (ad (3 + j))) (z_rf rfl) ?_
      refine lv_iload_n hx hb dX5_vote_62 rfl (lv_at hl 2 rfl) ?_
      refine lv_if_eq (tgt := 70) hx hb dX5_vote_63 (by decide) (fun c3 => ?_) (fun c3 => ?_)
      · skip
        refine lv_iconst (v := 2) hx hb dX5_vote_70 (by decide) ?_
        refine z_put (v := .int 2) (ty := .int) (ws2 := bkW cI cM ad (upd z (142 + j) 2) (txW cC t sg sz r (xoW x ad h t (hsW cB h ah (nI ((nx + 1) % 6)) (nI (min (kp + 1) 6)) (hbW cI cM ah (zup zh nx z) wr))))) hx hb hts inTX4 tyX4 tyX4_ok nmX4 hown hK hP hD hS (3 + j) (bk_m (show j < 8 by omega)) rfl 12 (by decide) (hts _ qf_X5_155) (fun _ h9 => h9) rfl (by decide +kernel) (rfl) (rfl) (Nat.le_of_ble_eq_true rfl) dX5_vote_71 (bk_wm _ (show j < 8 by omega) (by omega) (mfs_s12 (show j < 8 by omega))) (fun H locs hP hD hS => ?_)
        refine lv_aload_n hx hb dX5_vote_74 rfl (lv_at hl 0 rfl) ?_
        refine va_get (v := .ref (ad 0)) hx hb hts inTX5 hown hK hP (19 + (3 + (0))) ((bk_r).trans ((tx_r).trans (xo_0))) rfl 0 (by decide) (hts _ qf_X5_10) (fun _ h9 => h9) (rfl) dX5_vote_75 ?_
        refine z_callV1 (rest := []) S (c_X0_settleMotion (n := n) (show n ≤ 8 by omega) ((upd_ne (by omega)).trans (hz)) (d := d) (show d < n by omega) ((upd_ne (by omega)).trans (hz2))) qm_X5_158 v_X0_settleMotion ⟨Nat.le_of_ble_eq_true rfl, Nat.le_of_ble_eq_true rfl⟩ rfl rfl hN hK hP hD hS hA (0) (bk_0) rfl rfl hl.1 rfl (Nat.le_of_ble_eq_true rfl) dX5_vote_78 ⟨Nat.le_of_ble_eq_true rfl, Nat.le_of_ble_eq_true rfl⟩ (fun H locs hP hD hS => ?_)
        refine W.widen (k := 1) (n := 6) (by decide) (by decide) ?_
        exact z_xiret hx hb hr hlocks hP hD hK hS (by first | (simp only [kVote, mP, sP, inP, cl, alwP, alwM, cvP, whP, c1, nI_clamp (show j < 2 ^ 31 by omega), c2, c3, not_true_eq_false, not_false_eq_true, and_self, and_true, true_and, and_false, false_and, or_true, true_or, or_false, false_or, if_true, if_false, ite_true, ite_false]; done) | (simp [kVote, mP, sP, inP, cl, alwP, alwM, cvP, whP, c1, nI_clamp (show j < 2 ^ 31 by omega), c2, c3]; done) | (simp_all [kVote, mP, sP, inP, cl, alwP, alwM, cvP, whP]; done)) (by first | rfl | (simp only [minP, maxP, c1, nI_clamp (show j < 2 ^ 31 by omega), c2, c3, not_true_eq_false, not_false_eq_true, and_self, and_true, true_and, and_false, false_and, or_true, true_or, or_false, false_or, if_true, if_false, ite_true, ite_false]; done) | (simp [minP, maxP, c1, nI_clamp (show j < 2 ^ 31 by omega), c2, c3]; done) | (simp_all [minP, maxP]; done)) (by first | rfl | (simp only [minP, maxP, c1, nI_clamp (show j < 2 ^ 31 by omega), c2, c3, not_true_eq_false, not_false_eq_true, and_self, and_true, true_and, and_false, false_and, or_true, true_or, or_false, false_or, if_true, if_false, ite_true, ite_false]; done) | (simp [minP, maxP, c1, nI_clamp (show j < 2 ^ 31 by omega), c2, c3]; done) | (simp_all [minP, maxP]; done)) dX5_vote_81
      · skip
        refine lv_iconst (v := 1) hx hb dX5_vote_66 (by decide) ?_
        refine lv_goto (tgt := 71) hx hb dX5_vote_67 (by decide) ?_
        refine z_put (v := .int 1) (ty := .int) (ws2 := bkW cI cM ad (upd z (142 + j) 1) (txW cC t sg sz r (xoW x ad h t (hsW cB h ah (nI ((nx + 1) % 6)) (nI (min (kp + 1) 6)) (hbW cI cM ah (zup zh nx z) wr))))) hx hb hts inTX4 tyX4 tyX4_ok nmX4 hown hK hP hD hS (3 + j) (bk_m (show j < 8 by omega)) rfl 12 (by decide) (hts _ qf_X5_155) (fun _ h9 => h9) rfl (by decide +kernel) (rfl) (rfl) (Nat.le_of_ble_eq_true rfl) dX5_vote_71 (bk_wm _ (show j < 8 by omega) (by omega) (mfs_s12 (show j < 8 by omega))) (fun H locs hP hD hS => ?_)
        refine lv_aload_n hx hb dX5_vote_74 rfl (lv_at hl 0 rfl) ?_
        refine va_get (v := .ref (ad 0)) hx hb hts inTX5 hown hK hP (19 + (3 + (0))) ((bk_r).trans ((tx_r).trans (xo_0))) rfl 0 (by decide) (hts _ qf_X5_10) (fun _ h9 => h9) (rfl) dX5_vote_75 ?_
        refine z_callV1 (rest := []) S (c_X0_settleMotion (n := n) (show n ≤ 8 by omega) ((upd_ne (by omega)).trans (hz)) (d := d) (show d < n by omega) ((upd_ne (by omega)).trans (hz2))) qm_X5_158 v_X0_settleMotion ⟨Nat.le_of_ble_eq_true rfl, Nat.le_of_ble_eq_true rfl⟩ rfl rfl hN hK hP hD hS hA (0) (bk_0) rfl rfl hl.1 rfl (Nat.le_of_ble_eq_true rfl) dX5_vote_78 ⟨Nat.le_of_ble_eq_true rfl, Nat.le_of_ble_eq_true rfl⟩ (fun H locs hP hD hS => ?_)
        refine W.widen (k := 1) (n := 6) (by decide) (by decide) ?_
        exact z_xiret hx hb hr hlocks hP hD hK hS (by first | (simp only [kVote, mP, sP, inP, cl, alwP, alwM, cvP, whP, c1, nI_clamp (show j < 2 ^ 31 by omega), c2, c3, not_true_eq_false, not_false_eq_true, and_self, and_true, true_and, and_false, false_and, or_true, true_or, or_false, false_or, if_true, if_false, ite_true, ite_false]; done) | (simp [kVote, mP, sP, inP, cl, alwP, alwM, cvP, whP, c1, nI_clamp (show j < 2 ^ 31 by omega), c2, c3]; done) | (simp_all [kVote, mP, sP, inP, cl, alwP, alwM, cvP, whP]; done)) (by first | rfl | (simp only [minP, maxP, c1, nI_clamp (show j < 2 ^ 31 by omega), c2, c3, not_true_eq_false, not_false_eq_true, and_self, and_true, true_and, and_false, false_and, or_true, true_or, or_false, false_or, if_true, if_false, ite_true, ite_false]; done) | (simp [minP, maxP, c1, nI_clamp (show j < 2 ^ 31 by omega), c2, c3]; done) | (simp_all [minP, maxP]; done)) (by first | rfl | (simp only [minP, maxP, c1, nI_clamp (show j < 2 ^ 31 by omega), c2, c3, not_true_eq_false, not_false_eq_true, and_self, and_true, true_and, and_false, false_and, or_true, true_or, or_false, false_or, if_true, if_false, ite_true, ite_false]; done) | (simp [minP, maxP, c1, nI_clamp (show j < 2 ^ 31 by omega), c2, c3]; done) | (simp_all [minP, maxP]; done)) dX5_vote_81
    · have c2 := bI_0 c2
      refine z_throw (rest := []) (cls := "java/lang/IllegalStateException") (text := "the member cannot vote now") hfl S hlocks hX hJ hK hP hD hS (rfl) hl.1 (by decide) qk_X5_34 qn_IllegalStateException at_ISE_g (fun w h => zBadX_in.2.1 w (at_ISE_b w h)) at_ISE_t (by decide) (z_k0 (k := 2) (by first | (simp only [kVote, mP, sP, inP, cl, alwP, alwM, cvP, whP, c1, nI_clamp (show j < 2 ^ 31 by omega), c2, not_true_eq_false, not_false_eq_true, and_self, and_true, true_and, and_false, false_and, or_true, true_or, or_false, false_or, if_true, if_false, ite_true, ite_false]; done) | (simp [kVote, mP, sP, inP, cl, alwP, alwM, cvP, whP, c1, nI_clamp (show j < 2 ^ 31 by omega), c2]; done) | (simp_all [kVote, mP, sP, inP, cl, alwP, alwM, cvP, whP]; done)) (by decide)) (z_kE (k := 2) (by first | (simp only [kVote, mP, sP, inP, cl, alwP, alwM, cvP, whP, c1, nI_clamp (show j < 2 ^ 31 by omega), c2, not_true_eq_false, not_false_eq_true, and_self, and_true, true_and, and_false, false_and, or_true, true_or, or_false, false_or, if_true, if_false, ite_true, ite_false]; done) | (simp [kVote, mP, sP, inP, cl, alwP, alwM, cvP, whP, c1, nI_clamp (show j < 2 ^ 31 by omega), c2]; done) | (simp_all [kVote, mP, sP, inP, cl, alwP, alwM, cvP, whP]; done)) (by decide)) (by decide) (by decide) dX5_vote_32 dX5_vote_35 dX5_vote_36 dX5_vote_38 dX5_vote_41 (by decide) (by decide)
  · have c1 := bI_0 c1
    refine z_throw (rest := []) (cls := "java/lang/IndexOutOfBoundsException") (text := "no such member") hfl S hlocks hX hJ hK hP hD hS (rfl) hl.1 (by decide) qk_X5_53 qn_IndexOutOfBoundsException at_IOB_g (fun w h => zBadX_in.2.2 w (at_IOB_b w h)) at_IOB_t (by decide) (z_k0 (k := 1) (by first | (simp only [kVote, mP, sP, inP, cl, alwP, alwM, cvP, whP, c1, not_true_eq_false, not_false_eq_true, and_self, and_true, true_and, and_false, false_and, or_true, true_or, or_false, false_or, if_true, if_false, ite_true, ite_false]; done) | (simp [kVote, mP, sP, inP, cl, alwP, alwM, cvP, whP, c1]; done) | (simp_all [kVote, mP, sP, inP, cl, alwP, alwM, cvP, whP]; done)) (by decide)) (z_kE (k := 1) (by first | (simp only [kVote, mP, sP, inP, cl, alwP, alwM, cvP, whP, c1, not_true_eq_false, not_false_eq_true, and_self, and_true, true_and, and_false, false_and, or_true, true_or, or_false, false_or, if_true, if_false, ite_true, ite_false]; done) | (simp [kVote, mP, sP, inP, cl, alwP, alwM, cvP, whP, c1]; done) | (simp_all [kVote, mP, sP, inP, cl, alwP, alwM, cvP, whP]; done)) (by decide)) (by decide) (by decide) dX5_vote_11 dX5_vote_14 dX5_vote_15 dX5_vote_17 dX5_vote_20 (by decide) (by decide)
set_option maxHeartbeats 4000000 in
set_option maxRecDepth 100000 in
theorem c_X5_vote_a (hfl : l.stackTraces = false) {n : Nat} (hn : n ≤ 8) (hz : z 5 = nI n) {nx kp : Nat} (hnx : nx < 6) (hkp : kp ≤ 6) (hB : hBool z) (hz2 : z 10 = -1) (mb bf : Int32) : zX l D (zT cI cC cM cB cJ) yX5_vote cX5_vote 3 (some .int) ({ frames := 6, cells := 1, slots := 6, locals := 90 } : Room) [.ref x, .int mb, .int bf] (bkW cI cM ad z (txW cC t sg sz r (xoW x ad h t (hsW cB h ah (nI nx) (nI kp) (hbW cI cM ah zh wr))))) (bkW cI cM ad z (txW cC t sg sz r (xoW x ad h t (hsW cB h ah (nI nx) (nI kp) (hbW cI cM ah zh wr))))) (bkW cI cM ad z (txW cC t sg sz r (xoW x ad h t (hsW cB h ah (nI nx) (nI kp) (hbW cI cM ah zh wr))))) (some (.int 0)) "java/lang/IndexOutOfBoundsException" "java/lang/IllegalStateException" "" (kVote z n mb) 1 6 := by
  refine z_enterX (by decide) (Nat.le_of_ble_eq_true rfl) ?_
  intro p e s m below meth c A S hr hlocks hX hJ hN hA hK hP hD hS ls hl
  obtain ⟨hx, hb, hml, hown, hts⟩ := id S
  have hl : lv_has ls 3 [(0, .ref x), (1, .int mb), (2, .int bf)] := hl
  have hP : va_P D vwCl (bkW cI cM ad z (txW cC t sg sz r (xoW x ad h t (hsW cB h ah (nI nx) (nI kp) (hbW cI cM ah zh wr))))) s.heap := hP
  have hD : va_D A (bkW cI cM ad z (txW cC t sg sz r (xoW x ad h t (hsW cB h ah (nI nx) (nI kp) (hbW cI cM ah zh wr))))) := hD
  refine lv_aload_n hx hb dX5_vote_0 rfl (lv_at hl 0 rfl) ?_
  refine va_get (v := .ref (ad 0)) hx hb hts inTX5 hown hK hP (19 + (3 + (0))) ((bk_r).trans ((tx_r).trans (xo_0))) rfl 0 (by decide) (hts _ qf_X5_10) (fun _ h9 => h9) (rfl) dX5_vote_1 ?_
  refine lv_iload_n hx hb dX5_vote_4 rfl (lv_at hl 1 rfl) ?_
  refine z_callV1 (rest := []) S (c_X0_isMember (n := n) (show n ≤ 8 by omega) (hz) mb) qm_X5_49 v_X0_isMember ⟨Nat.le_of_ble_eq_true rfl, Nat.le_of_ble_eq_true rfl⟩ rfl rfl hN hK hP hD hS hA (0) (bk_0) rfl rfl hl.1 rfl (Nat.le_of_ble_eq_true rfl) dX5_vote_5 ⟨Nat.le_of_ble_eq_true rfl, Nat.le_of_ble_eq_true rfl⟩ (fun H locs hP hD hS => ?_)
  refine lv_if_ne (tgt := 21) hx hb dX5_vote_8 (by decide) (fun c1 => ?_) (fun c1 => ?_)
  · have c1 := bI_1 c1
    obtain ⟨j, hj, rfl⟩ := mem_nat hn c1
    refine lv_aload_n hx hb dX5_vote_21 rfl (lv_at hl 0 rfl) ?_
    refine va_get (v := .ref (ad 0)) hx hb hts inTX5 hown hK hP (19 + (3 + (0))) ((bk_r).trans ((tx_r).trans (xo_0))) rfl 0 (by decide) (hts _ qf_X5_10) (fun _ h9 => h9) (rfl) dX5_vote_22 ?_
    refine lv_iload_n hx hb dX5_vote_25 rfl (lv_at hl 1 rfl) ?_
    refine z_callV1 (rest := []) S (c_X0_canVote j (show j < 8 by omega)) qm_X5_150 v_X0_canVote ⟨Nat.le_of_ble_eq_true rfl, Nat.le_of_ble_eq_true rfl⟩ rfl rfl hN hK hP hD hS hA (0) (bk_0) rfl rfl hl.1 rfl (Nat.le_of_ble_eq_true rfl) dX5_vote_26 ⟨Nat.le_of_ble_eq_true rfl, Nat.le_of_ble_eq_true rfl⟩ (fun H locs hP hD hS => ?_)
    refine lv_if_ne (tgt := 42) hx hb dX5_vote_29 (by decide) (fun c2 => absurd c2 (not_not_intro (bI_f (fun q => q.1 hz2)))) (fun c2 => ?_)
    have c2 := bI_0 c2
    refine z_throw (rest := []) (cls := "java/lang/IllegalStateException") (text := "the member cannot vote now") hfl S hlocks hX hJ hK hP hD hS (rfl) hl.1 (by decide) qk_X5_34 qn_IllegalStateException at_ISE_g (fun w h => zBadX_in.2.1 w (at_ISE_b w h)) at_ISE_t (by decide) (z_k0 (k := 2) (by first | (simp only [kVote, hz2, mP, sP, inP, cl, alwP, alwM, cvP, whP, c1, nI_clamp (show j < 2 ^ 31 by omega), c2, not_true_eq_false, not_false_eq_true, and_self, and_true, true_and, and_false, false_and, or_true, true_or, or_false, false_or, if_true, if_false, ite_true, ite_false]; done) | (simp [kVote, hz2, mP, sP, inP, cl, alwP, alwM, cvP, whP, c1, nI_clamp (show j < 2 ^ 31 by omega), c2]; done) | (simp_all [kVote, hz2, mP, sP, inP, cl, alwP, alwM, cvP, whP]; done)) (by decide)) (z_kE (k := 2) (by first | (simp only [kVote, hz2, mP, sP, inP, cl, alwP, alwM, cvP, whP, c1, nI_clamp (show j < 2 ^ 31 by omega), c2, not_true_eq_false, not_false_eq_true, and_self, and_true, true_and, and_false, false_and, or_true, true_or, or_false, false_or, if_true, if_false, ite_true, ite_false]; done) | (simp [kVote, hz2, mP, sP, inP, cl, alwP, alwM, cvP, whP, c1, nI_clamp (show j < 2 ^ 31 by omega), c2]; done) | (simp_all [kVote, hz2, mP, sP, inP, cl, alwP, alwM, cvP, whP]; done)) (by decide)) (by decide) (by decide) dX5_vote_32 dX5_vote_35 dX5_vote_36 dX5_vote_38 dX5_vote_41 (by decide) (by decide)
  · have c1 := bI_0 c1
    refine z_throw (rest := []) (cls := "java/lang/IndexOutOfBoundsException") (text := "no such member") hfl S hlocks hX hJ hK hP hD hS (rfl) hl.1 (by decide) qk_X5_53 qn_IndexOutOfBoundsException at_IOB_g (fun w h => zBadX_in.2.2 w (at_IOB_b w h)) at_IOB_t (by decide) (z_k0 (k := 1) (by first | (simp only [kVote, hz2, mP, sP, inP, cl, alwP, alwM, cvP, whP, c1, not_true_eq_false, not_false_eq_true, and_self, and_true, true_and, and_false, false_and, or_true, true_or, or_false, false_or, if_true, if_false, ite_true, ite_false]; done) | (simp [kVote, hz2, mP, sP, inP, cl, alwP, alwM, cvP, whP, c1]; done) | (simp_all [kVote, hz2, mP, sP, inP, cl, alwP, alwM, cvP, whP]; done)) (by decide)) (z_kE (k := 1) (by first | (simp only [kVote, hz2, mP, sP, inP, cl, alwP, alwM, cvP, whP, c1, not_true_eq_false, not_false_eq_true, and_self, and_true, true_and, and_false, false_and, or_true, true_or, or_false, false_or, if_true, if_false, ite_true, ite_false]; done) | (simp [kVote, hz2, mP, sP, inP, cl, alwP, alwM, cvP, whP, c1]; done) | (simp_all [kVote, hz2, mP, sP, inP, cl, alwP, alwM, cvP, whP]; done)) (by decide)) (by decide) (by decide) dX5_vote_11 dX5_vote_14 dX5_vote_15 dX5_vote_17 dX5_vote_20 (by decide) (by decide)
set_option maxHeartbeats 4000000 in
set_option maxRecDepth 100000 in
theorem c_X5_takeBack (hfl : l.stackTraces = false) {n : Nat} (hn : n ≤ 8) (hz : z 5 = nI n) {nx kp : Nat} (hnx : nx < 6) (hkp : kp ≤ 6) (hB : hBool z) : zX l D (zT cI cC cM cB cJ) yX5_takeBack cX5_takeBack 2 (some .int) ({ frames := 6, cells := 1, slots := 6, locals := 90 } : Room) [.ref x] (bkW cI cM ad z (txW cC t sg sz r (xoW x ad h t (hsW cB h ah (nI nx) (nI kp) (hbW cI cM ah zh wr))))) (bkW cI cM ad (dropZ z n) (txW cC t sg sz r (xoW x ad h t (hsW cB h ah (nI ((nx + 1) % 6)) (nI (min (kp + 1) 6)) (hbW cI cM ah (zup zh nx z) wr))))) (bkW cI cM ad z (txW cC t sg sz r (xoW x ad h t (hsW cB h ah (nI nx) (nI kp) (hbW cI cM ah zh wr))))) (some (.int (cntB z 1 n + cntB z 2 n))) "java/lang/IllegalStateException" "" "" (kTake z) 1 6 := by
  refine z_enterX (by decide) (Nat.le_of_ble_eq_true rfl) ?_
  intro p e s m below meth c A S hr hlocks hX hJ hN hA hK hP hD hS ls hl
  obtain ⟨hx, hb, hml, hown, hts⟩ := id S
  have hl : lv_has ls 2 [(0, .ref x)] := hl
  have hP : va_P D vwCl (bkW cI cM ad z (txW cC t sg sz r (xoW x ad h t (hsW cB h ah (nI nx) (nI kp) (hbW cI cM ah zh wr))))) s.heap := hP
  have hD : va_D A (bkW cI cM ad z (txW cC t sg sz r (xoW x ad h t (hsW cB h ah (nI nx) (nI kp) (hbW cI cM ah zh wr))))) := hD
  refine lv_aload_n hx hb dX5_takeBack_0 rfl (lv_at hl 0 rfl) ?_
  refine va_get (v := .ref (ad 0)) hx hb hts inTX5 hown hK hP (19 + (3 + (0))) ((bk_r).trans ((tx_r).trans (xo_0))) rfl 0 (by decide) (hts _ qf_X5_10) (fun _ h9 => h9) (rfl) dX5_takeBack_1 ?_
  refine z_callV1 (rest := []) S (c_X0_hasMotion ) qm_X5_161 v_X0_hasMotion ⟨Nat.le_of_ble_eq_true rfl, Nat.le_of_ble_eq_true rfl⟩ rfl rfl hN hK hP hD hS hA (0) (bk_0) rfl rfl hl.1 rfl (Nat.le_of_ble_eq_true rfl) dX5_takeBack_4 ⟨Nat.le_of_ble_eq_true rfl, Nat.le_of_ble_eq_true rfl⟩ (fun H locs hP hD hS => ?_)
  refine lv_if_ne (tgt := 20) hx hb dX5_takeBack_7 (by decide) (fun c1 => ?_) (fun c1 => ?_)
  · have c1 := bI_1 c1
    refine lv_aload_n hx hb dX5_takeBack_20 rfl (lv_at hl 0 rfl) ?_
    refine va_get (v := .ref (h 0)) hx hb hts inTX5 hown hK hP (19 + (3 + (0))) ((bk_r).trans ((tx_r).trans (xo_0))) rfl 1 (by decide) (hts _ qf_X5_19) (fun _ h9 => h9) (rfl) dX5_takeBack_21 ?_
    refine lv_aload_n hx hb dX5_takeBack_24 rfl (lv_at hl 0 rfl) ?_
    refine va_get (v := .ref (ad 0)) hx hb hts inTX5 hown hK hP (19 + (3 + (0))) ((bk_r).trans ((tx_r).trans (xo_0))) rfl 0 (by decide) (hts _ qf_X5_10) (fun _ h9 => h9) (rfl) dX5_takeBack_25 ?_
    refine z_callV0 (rest := []) S (c_X3_keep hnx hkp hB) qm_X5_41 v_X3_keep ⟨Nat.le_of_ble_eq_true rfl, Nat.le_of_ble_eq_true rfl⟩ rfl rfl hN hK hP hD hS hA (19 + (3 + (1 + (0)))) ((bk_r).trans ((tx_r).trans ((xo_r).trans (hs_0)))) rfl rfl hl.1 rfl (Nat.le_of_ble_eq_true rfl) dX5_takeBack_28 ⟨Nat.le_of_ble_eq_true rfl, Nat.le_of_ble_eq_true rfl⟩ (fun H locs hP hD hS => ?_)
    refine lv_aload_n hx hb dX5_takeBack_31 rfl (lv_at hl 0 rfl) ?_
    refine va_get (v := .ref (ad 0)) hx hb hts inTX5 hown hK hP (19 + (3 + (0))) ((bk_r).trans ((tx_r).trans (xo_0))) rfl 0 (by decide) (hts _ qf_X5_10) (fun _ h9 => h9) (rfl) dX5_takeBack_32 ?_
    refine lv_iconst (v := 1) hx hb dX5_takeBack_35 (by decide) ?_
    refine z_callV1 (rest := []) S (c_X0_countBallots (n := n) (show n ≤ 8 by omega) (hz) 1) qm_X5_167 v_X0_countBallots ⟨Nat.le_of_ble_eq_true rfl, Nat.le_of_ble_eq_true rfl⟩ rfl rfl hN hK hP hD hS hA (0) (bk_0) rfl rfl hl.1 rfl (Nat.le_of_ble_eq_true rfl) dX5_takeBack_36 ⟨Nat.le_of_ble_eq_true rfl, Nat.le_of_ble_eq_true rfl⟩ (fun H locs hP hD hS => ?_)
    refine lv_aload_n hx hb dX5_takeBack_39 rfl (lv_at hl 0 rfl) ?_
    refine va_get (v := .ref (ad 0)) hx hb hts inTX5 hown hK hP (19 + (3 + (0))) ((bk_r).trans ((tx_r).trans (xo_0))) rfl 0 (by decide) (hts _ qf_X5_10) (fun _ h9 => h9) (rfl) dX5_takeBack_40 ?_
    refine lv_iconst (v := 2) hx hb dX5_takeBack_43 (by decide) ?_
    refine z_callV1 (rest := [.int (cntB z 1 n)]) S (c_X0_countBallots (n := n) (show n ≤ 8 by omega) (hz) 2) qm_X5_167 v_X0_countBallots ⟨Nat.le_of_ble_eq_true rfl, Nat.le_of_ble_eq_true rfl⟩ rfl rfl hN hK hP hD hS hA (0) (bk_0) rfl rfl hl.1 rfl (Nat.le_of_ble_eq_true rfl) dX5_takeBack_44 ⟨Nat.le_of_ble_eq_true rfl, Nat.le_of_ble_eq_true rfl⟩ (fun H locs hP hD hS => ?_)
    refine lv_iadd hx hb dX5_takeBack_47  ?_
    refine lv_istore_n (lv' := [(1, .int ((cntB z 1 n) + (cntB z 2 n))), (0, .ref x)]) hx hb dX5_takeBack_48 rfl hl (by decide) rfl (fun ls hl => ?_)
    refine lv_aload_n hx hb dX5_takeBack_49 rfl (lv_at hl 1 rfl) ?_
    refine va_get (v := .ref (ad 0)) hx hb hts inTX5 hown hK hP (19 + (3 + (0))) ((bk_r).trans ((tx_r).trans (xo_0))) rfl 0 (by decide) (hts _ qf_X5_10) (fun _ h9 => h9) (rfl) dX5_takeBack_50 ?_
    refine z_callV0 (rest := []) S (c_X0_dropMotion (n := n) (show n ≤ 8 by omega) (hz)) qm_X5_170 v_X0_dropMotion ⟨Nat.le_of_ble_eq_true rfl, Nat.le_of_ble_eq_true rfl⟩ rfl rfl hN hK hP hD hS hA (0) (bk_0) rfl rfl hl.1 rfl (Nat.le_of_ble_eq_true rfl) dX5_takeBack_53 ⟨Nat.le_of_ble_eq_true rfl, Nat.le_of_ble_eq_true rfl⟩ (fun H locs hP hD hS => ?_)
    refine lv_iload_n hx hb dX5_takeBack_56 rfl (lv_at hl 0 rfl) ?_
    refine W.widen (k := 1) (n := 6) (by decide) (by decide) ?_
    exact z_xiret hx hb hr hlocks hP hD hK hS (by first | (simp only [kTake, mP, sP, inP, cl, alwP, alwM, cvP, whP, c1, not_true_eq_false, not_false_eq_true, and_self, and_true, true_and, and_false, false_and, or_true, true_or, or_false, false_or, if_true, if_false, ite_true, ite_false]; done) | (simp [kTake, mP, sP, inP, cl, alwP, alwM, cvP, whP, c1]; done) | (simp_all [kTake, mP, sP, inP, cl, alwP, alwM, cvP, whP]; done)) (rfl) (by first | rfl | (simp only [minP, maxP, c1, not_true_eq_false, not_false_eq_true, and_self, and_true, true_and, and_false, false_and, or_true, true_or, or_false, false_or, if_true, if_false, ite_true, ite_false]; done) | (simp [minP, maxP, c1]; done) | (simp_all [minP, maxP]; done)) dX5_takeBack_57
  · have c1 := bI_0n c1
    refine z_throw (rest := []) (cls := "java/lang/IllegalStateException") (text := "there is no motion") hfl S hlocks hX hJ hK hP hD hS (rfl) hl.1 (by decide) qk_X5_34 qn_IllegalStateException at_ISE_g (fun w h => zBadX_in.2.1 w (at_ISE_b w h)) at_ISE_t (by decide) (z_k0 (k := 1) (by first | (simp only [kTake, mP, sP, inP, cl, alwP, alwM, cvP, whP, c1, not_true_eq_false, not_false_eq_true, and_self, and_true, true_and, and_false, false_and, or_true, true_or, or_false, false_or, if_true, if_false, ite_true, ite_false]; done) | (simp [kTake, mP, sP, inP, cl, alwP, alwM, cvP, whP, c1]; done) | (simp_all [kTake, mP, sP, inP, cl, alwP, alwM, cvP, whP]; done)) (by decide)) (z_kE (k := 1) (by first | (simp only [kTake, mP, sP, inP, cl, alwP, alwM, cvP, whP, c1, not_true_eq_false, not_false_eq_true, and_self, and_true, true_and, and_false, false_and, or_true, true_or, or_false, false_or, if_true, if_false, ite_true, ite_false]; done) | (simp [kTake, mP, sP, inP, cl, alwP, alwM, cvP, whP, c1]; done) | (simp_all [kTake, mP, sP, inP, cl, alwP, alwM, cvP, whP]; done)) (by decide)) (by decide) (by decide) dX5_takeBack_10 dX5_takeBack_13 dX5_takeBack_14 dX5_takeBack_16 dX5_takeBack_19 (by decide) (by decide)
set_option maxHeartbeats 4000000 in
set_option maxRecDepth 100000 in
theorem c_X5_append (hfl : l.stackTraces = false) {nx kp nb : Nat} (hnb : nb ≤ 60) (cd : Int32) : zX l D (zT cI cC cM cB cJ) yX5_append cX5_append 2 (some .int) ({ frames := 6, cells := 1, slots := 6, locals := 90 } : Room) [.ref x, .int cd] (bkW cI cM ad z (txW cC t sg (nI nb) r (xoW x ad h t (hsW cB h ah (nI nx) (nI kp) (hbW cI cM ah zh wr))))) (bkW cI cM ad z (txW cC t (upd sg nb cd) (nI (nb + 1)) r (xoW x ad h t (hsW cB h ah (nI nx) (nI kp) (hbW cI cM ah zh wr))))) (bkW cI cM ad z (txW cC t sg (nI nb) r (xoW x ad h t (hsW cB h ah (nI nx) (nI kp) (hbW cI cM ah zh wr))))) (some (.int (nI (nb + 1)))) "java/lang/IllegalArgumentException" "java/lang/IllegalStateException" "" (kAppend nb cd) 1 6 := by
  refine z_enterX (by decide) (Nat.le_of_ble_eq_true rfl) ?_
  intro p e s m below meth c A S hr hlocks hX hJ hN hA hK hP hD hS ls hl
  obtain ⟨hx, hb, hml, hown, hts⟩ := id S
  have hl : lv_has ls 2 [(0, .ref x), (1, .int cd)] := hl
  have hP : va_P D vwCl (bkW cI cM ad z (txW cC t sg (nI nb) r (xoW x ad h t (hsW cB h ah (nI nx) (nI kp) (hbW cI cM ah zh wr))))) s.heap := hP
  have hD : va_D A (bkW cI cM ad z (txW cC t sg (nI nb) r (xoW x ad h t (hsW cB h ah (nI nx) (nI kp) (hbW cI cM ah zh wr))))) := hD
  refine lv_iload_n hx hb dX5_append_0 rfl (lv_at hl 1 rfl) ?_
  refine lv_bipush (v := 33) hx hb dX5_append_1 (by decide) ?_
  refine lv_bipush (v := 126) hx hb dX5_append_3 (by decide) ?_
  refine z_callS1 (rest := []) S (c_X5_isWithin cd 33 126) qm_X5_100 t_X5_isWithin ⟨Nat.le_of_ble_eq_true rfl, Nat.le_of_ble_eq_true rfl⟩ rfl rfl hN hK hP hD hS hA rfl hl.1 rfl (Nat.le_of_ble_eq_true rfl) dX5_append_5 ⟨Nat.le_of_ble_eq_true rfl, Nat.le_of_ble_eq_true rfl⟩ (fun H locs hP hD hS => ?_)
  refine lv_if_ne (tgt := 21) hx hb dX5_append_8 (by decide) (fun c1 => ?_) (fun c1 => ?_)
  · have c1 := bI_1 c1
    obtain ⟨q_, hq_, rfl⟩ := c126_nat c1
    refine lv_aload_n hx hb dX5_append_21 rfl (lv_at hl 0 rfl) ?_
    refine va_get (v := .ref (t 0)) hx hb hts inTX5 hown hK hP (19 + (3 + (0))) ((bk_r).trans ((tx_r).trans (xo_0))) rfl 2 (by decide) (hts _ qf_X5_26) (fun _ h9 => h9) (rfl) dX5_append_22 ?_
    refine va_get (v := .int (nI nb)) hx hb hts inTX2 hown hK hP (19 + (0)) ((bk_r).trans (tx_0)) rfl 2 (by decide) (hts _ qf_X5_175) (fun _ h9 => h9) (rfl) dX5_append_25 ?_
    refine lv_bipush (v := 60) hx hb dX5_append_28 (by decide) ?_
    refine lv_icmp_lt (tgt := 43) hx hb dX5_append_30 (by decide) (fun c2 => ?_) (fun c2 => ?_)
    · skip
      refine lv_aload_n hx hb dX5_append_43 rfl (lv_at hl 0 rfl) ?_
      refine va_get (v := .ref (t 0)) hx hb hts inTX5 hown hK hP (19 + (3 + (0))) ((bk_r).trans ((tx_r).trans (xo_0))) rfl 2 (by decide) (hts _ qf_X5_26) (fun _ h9 => h9) (rfl) dX5_append_44 ?_
      refine lv_iload_n hx hb dX5_append_47 rfl (lv_at hl 1 rfl) ?_
      have hnb6 : nb < 60 := (nI_ltI (a := nb) (b := 60) (by omega) (by omega)).mp c2
      refine lv_i2c hx hb dX5_append_48 rfl ?_
      refine z_top (v2 := .int (nI q_)) (congrArg Value.int (chr_nI (by omega))) ?_
      refine z_callV0 (rest := []) S (c_X2_addSign (n := nb) (by omega) (chr_nar (by omega))) qm_X5_180 v_X2_addSign ⟨Nat.le_of_ble_eq_true rfl, Nat.le_of_ble_eq_true rfl⟩ rfl rfl hN hK hP hD hS hA (19 + (0)) ((bk_r).trans (tx_0)) rfl rfl hl.1 rfl (Nat.le_of_ble_eq_true rfl) dX5_append_49 ⟨Nat.le_of_ble_eq_true rfl, Nat.le_of_ble_eq_true rfl⟩ (fun H locs hP hD hS => ?_)
      refine lv_aload_n hx hb dX5_append_52 rfl (lv_at hl 0 rfl) ?_
      refine va_get (v := .ref (t 0)) hx hb hts inTX5 hown hK hP (19 + (3 + (0))) ((bk_r).trans ((tx_r).trans (xo_0))) rfl 2 (by decide) (hts _ qf_X5_26) (fun _ h9 => h9) (rfl) dX5_append_53 ?_
      refine va_get (v := .int (nI (nb + 1))) hx hb hts inTX2 hown hK hP (19 + (0)) ((bk_r).trans (tx_0)) rfl 2 (by decide) (hts _ qf_X5_175) (fun _ h9 => h9) (rfl) dX5_append_56 ?_
      refine W.widen (k := 1) (n := 6) (by decide) (by decide) ?_
      exact z_xiret hx hb hr hlocks hP hD hK hS (by first | (simp only [kAppend, mP, sP, inP, cl, alwP, alwM, cvP, whP, c1, nI_clamp (show q_ < 2 ^ 31 by omega), c2, not_true_eq_false, not_false_eq_true, and_self, and_true, true_and, and_false, false_and, or_true, true_or, or_false, false_or, if_true, if_false, ite_true, ite_false]; done) | (simp [kAppend, mP, sP, inP, cl, alwP, alwM, cvP, whP, c1, nI_clamp (show q_ < 2 ^ 31 by omega), c2]; done) | (simp_all [kAppend, mP, sP, inP, cl, alwP, alwM, cvP, whP]; done)) (by first | rfl | (simp only [minP, maxP, c1, nI_clamp (show q_ < 2 ^ 31 by omega), c2, not_true_eq_false, not_false_eq_true, and_self, and_true, true_and, and_false, false_and, or_true, true_or, or_false, false_or, if_true, if_false, ite_true, ite_false]; done) | (simp [minP, maxP, c1, nI_clamp (show q_ < 2 ^ 31 by omega), c2]; done) | (simp_all [minP, maxP]; done)) (by first | rfl | (simp only [minP, maxP, c1, nI_clamp (show q_ < 2 ^ 31 by omega), c2, not_true_eq_false, not_false_eq_true, and_self, and_true, true_and, and_false, false_and, or_true, true_or, or_false, false_or, if_true, if_false, ite_true, ite_false]; done) | (simp [minP, maxP, c1, nI_clamp (show q_ < 2 ^ 31 by omega), c2]; done) | (simp_all [minP, maxP]; done)) dX5_append_59
    · skip
      refine z_throw (rest := []) (cls := "java/lang/IllegalStateException") (text := "the buffer has 60 characters") hfl S hlocks hX hJ hK hP hD hS (rfl) hl.1 (by decide) qk_X5_34 qn_IllegalStateException at_ISE_g (fun w h => zBadX_in.2.1 w (at_ISE_b w h)) at_ISE_t (by decide) (z_k0 (k := 2) (by first | (simp only [kAppend, mP, sP, inP, cl, alwP, alwM, cvP, whP, c1, nI_clamp (show q_ < 2 ^ 31 by omega), c2, not_true_eq_false, not_false_eq_true, and_self, and_true, true_and, and_false, false_and, or_true, true_or, or_false, false_or, if_true, if_false, ite_true, ite_false]; done) | (simp [kAppend, mP, sP, inP, cl, alwP, alwM, cvP, whP, c1, nI_clamp (show q_ < 2 ^ 31 by omega), c2]; done) | (simp_all [kAppend, mP, sP, inP, cl, alwP, alwM, cvP, whP]; done)) (by decide)) (z_kE (k := 2) (by first | (simp only [kAppend, mP, sP, inP, cl, alwP, alwM, cvP, whP, c1, nI_clamp (show q_ < 2 ^ 31 by omega), c2, not_true_eq_false, not_false_eq_true, and_self, and_true, true_and, and_false, false_and, or_true, true_or, or_false, false_or, if_true, if_false, ite_true, ite_false]; done) | (simp [kAppend, mP, sP, inP, cl, alwP, alwM, cvP, whP, c1, nI_clamp (show q_ < 2 ^ 31 by omega), c2]; done) | (simp_all [kAppend, mP, sP, inP, cl, alwP, alwM, cvP, whP]; done)) (by decide)) (by decide) (by decide) dX5_append_33 dX5_append_36 dX5_append_37 dX5_append_39 dX5_append_42 (by decide) (by decide)
  · have c1 := bI_0 c1
    refine z_throw (rest := []) (cls := "java/lang/IllegalArgumentException") (text := "code is not 33 to 126") hfl S hlocks hX hJ hK hP hD hS (rfl) hl.1 (by decide) qk_X5_85 qn_IllegalArgumentException at_IAE_g (fun w h => zBadX_in.1 w (at_IAE_b w h)) at_IAE_t (by decide) (z_k0 (k := 1) (by first | (simp only [kAppend, mP, sP, inP, cl, alwP, alwM, cvP, whP, c1, not_true_eq_false, not_false_eq_true, and_self, and_true, true_and, and_false, false_and, or_true, true_or, or_false, false_or, if_true, if_false, ite_true, ite_false]; done) | (simp [kAppend, mP, sP, inP, cl, alwP, alwM, cvP, whP, c1]; done) | (simp_all [kAppend, mP, sP, inP, cl, alwP, alwM, cvP, whP]; done)) (by decide)) (z_kE (k := 1) (by first | (simp only [kAppend, mP, sP, inP, cl, alwP, alwM, cvP, whP, c1, not_true_eq_false, not_false_eq_true, and_self, and_true, true_and, and_false, false_and, or_true, true_or, or_false, false_or, if_true, if_false, ite_true, ite_false]; done) | (simp [kAppend, mP, sP, inP, cl, alwP, alwM, cvP, whP, c1]; done) | (simp_all [kAppend, mP, sP, inP, cl, alwP, alwM, cvP, whP]; done)) (by decide)) (by decide) (by decide) dX5_append_11 dX5_append_14 dX5_append_15 dX5_append_17 dX5_append_20 (by decide) (by decide)
set_option maxHeartbeats 4000000 in
set_option maxRecDepth 100000 in
theorem c_X5_clearBuffer {nx kp nb : Nat} (hnb : nb ≤ 60) : zM l D (zT cI cC cM cB cJ) yX5_clearBuffer cX5_clearBuffer 2 (some .int) ({ frames := 0, cells := 0, slots := 0, locals := 0 } : Room) [.ref x] (bkW cI cM ad z (txW cC t sg (nI nb) r (xoW x ad h t (hsW cB h ah (nI nx) (nI kp) (hbW cI cM ah zh wr))))) (bkW cI cM ad z (txW cC t sg 0 r (xoW x ad h t (hsW cB h ah (nI nx) (nI kp) (hbW cI cM ah zh wr))))) (some (.int (nI nb))) 0 0 := by
  refine z_enter (by decide) (Nat.le_of_ble_eq_true rfl) ?_
  intro p e s m below meth c A S hr hlocks hnm hN hA hK hP hD hS ls hl
  obtain ⟨hx, hb, hml, hown, hts⟩ := id S
  have hl : lv_has ls 2 [(0, .ref x)] := hl
  have hP : va_P D vwCl (bkW cI cM ad z (txW cC t sg (nI nb) r (xoW x ad h t (hsW cB h ah (nI nx) (nI kp) (hbW cI cM ah zh wr))))) s.heap := hP
  have hD : va_D A (bkW cI cM ad z (txW cC t sg (nI nb) r (xoW x ad h t (hsW cB h ah (nI nx) (nI kp) (hbW cI cM ah zh wr))))) := hD
  refine lv_aload_n hx hb dX5_clearBuffer_0 rfl (lv_at hl 0 rfl) ?_
  refine va_get (v := .ref (t 0)) hx hb hts inTX5 hown hK hP (19 + (3 + (0))) ((bk_r).trans ((tx_r).trans (xo_0))) rfl 2 (by decide) (hts _ qf_X5_26) (fun _ h9 => h9) (rfl) dX5_clearBuffer_1 ?_
  refine va_get (v := .int (nI nb)) hx hb hts inTX2 hown hK hP (19 + (0)) ((bk_r).trans (tx_0)) rfl 2 (by decide) (hts _ qf_X5_175) (fun _ h9 => h9) (rfl) dX5_clearBuffer_4 ?_
  refine lv_istore_n (lv' := [(1, .int (nI nb)), (0, .ref x)]) hx hb dX5_clearBuffer_7 rfl hl (by decide) rfl (fun ls hl => ?_)
  refine lv_aload_n hx hb dX5_clearBuffer_8 rfl (lv_at hl 1 rfl) ?_
  refine va_get (v := .ref (t 0)) hx hb hts inTX5 hown hK hP (19 + (3 + (0))) ((bk_r).trans ((tx_r).trans (xo_0))) rfl 2 (by decide) (hts _ qf_X5_26) (fun _ h9 => h9) (rfl) dX5_clearBuffer_9 ?_
  refine lv_iconst (v := 0) hx hb dX5_clearBuffer_12 (by decide) ?_
  refine z_put (v := .int 0) (ty := .int) (ws2 := bkW cI cM ad z (txW cC t sg 0 r (xoW x ad h t (hsW cB h ah (nI nx) (nI kp) (hbW cI cM ah zh wr))))) hx hb hts inTX2 tyX2 tyX2_ok nmX2 hown hK hP hD hS (19 + (0)) ((bk_r).trans (tx_0)) rfl 2 (by decide) (hts _ qf_X5_175) (fun _ h9 => h9) rfl (by decide +kernel) (rfl) (rfl) (Nat.le_of_ble_eq_true rfl) dX5_clearBuffer_13 ((bk_rs).trans (congrArg (fun w_ => bkW cI cM ad z w_) (rfl))) (fun H locs hP hD hS => ?_)
  refine lv_iload_n hx hb dX5_clearBuffer_16 rfl (lv_at hl 0 rfl) ?_
  exact z_iret hx hb hr hlocks hP hD hK hS (rfl) (by first | rfl | (simp only [minP, maxP, not_true_eq_false, not_false_eq_true, and_self, and_true, true_and, and_false, false_and, or_true, true_or, or_false, false_or, if_true, if_false, ite_true, ite_false]; done) | (simp [minP, maxP]; done) | (simp_all [minP, maxP]; done)) dX5_clearBuffer_17
set_option maxHeartbeats 4000000 in
set_option maxRecDepth 100000 in
theorem c_X5_firstError {nx kp nb : Nat} (hnb : nb ≤ 60) : zM l D (zT cI cC cM cB cJ) yX5_firstError cX5_firstError 1 (some .int) ({ frames := 5, cells := 0, slots := 0, locals := 105 } : Room) [.ref x] (bkW cI cM ad z (txW cC t sg (nI nb) r (xoW x ad h t (hsW cB h ah (nI nx) (nI kp) (hbW cI cM ah zh wr))))) (bkW cI cM ad z (txW cC t sg (nI nb) (feR sg (rstR r) 0 nb) (xoW x ad h t (hsW cB h ah (nI nx) (nI kp) (hbW cI cM ah zh wr))))) (some (.int (nI (feN sg (rstR r) 0 nb)))) 0 0 := by
  refine z_enter (by decide) (Nat.le_of_ble_eq_true rfl) ?_
  intro p e s m below meth c A S hr hlocks hnm hN hA hK hP hD hS ls hl
  obtain ⟨hx, hb, hml, hown, hts⟩ := id S
  have hl : lv_has ls 1 [(0, .ref x)] := hl
  have hP : va_P D vwCl (bkW cI cM ad z (txW cC t sg (nI nb) r (xoW x ad h t (hsW cB h ah (nI nx) (nI kp) (hbW cI cM ah zh wr))))) s.heap := hP
  have hD : va_D A (bkW cI cM ad z (txW cC t sg (nI nb) r (xoW x ad h t (hsW cB h ah (nI nx) (nI kp) (hbW cI cM ah zh wr))))) := hD
  refine lv_aload_n hx hb dX5_firstError_0 rfl (lv_at hl 0 rfl) ?_
  refine va_get (v := .ref (t 0)) hx hb hts inTX5 hown hK hP (19 + (3 + (0))) ((bk_r).trans ((tx_r).trans (xo_0))) rfl 2 (by decide) (hts _ qf_X5_26) (fun _ h9 => h9) (rfl) dX5_firstError_1 ?_
  refine z_callV1 (rest := []) S (c_X2_findError (n := nb) (by omega)) qm_X5_184 v_X2_findError ⟨Nat.le_of_ble_eq_true rfl, Nat.le_of_ble_eq_true rfl⟩ rfl rfl hN hK hP hD hS hA (19 + (0)) ((bk_r).trans (tx_0)) rfl rfl hl.1 rfl (Nat.le_of_ble_eq_true rfl) dX5_firstError_4 ⟨Nat.le_of_ble_eq_true rfl, Nat.le_of_ble_eq_true rfl⟩ (fun H locs hP hD hS => ?_)
  exact z_iret hx hb hr hlocks hP hD hK hS (rfl) (by first | rfl | (simp only [minP, maxP, not_true_eq_false, not_false_eq_true, and_self, and_true, true_and, and_false, false_and, or_true, true_or, or_false, false_or, if_true, if_false, ite_true, ite_false]; done) | (simp [minP, maxP]; done) | (simp_all [minP, maxP]; done)) dX5_firstError_7
set_option maxHeartbeats 4000000 in
set_option maxRecDepth 100000 in
theorem c_X5_run (hfl : l.stackTraces = false) {n : Nat} (hn : n ≤ 8) (hz : z 5 = nI n) {nx kp : Nat} (hnx : nx < 6) (hkp : kp ≤ 6) (hB : hBool z) {nb : Nat} (hnb : nb ≤ 60) : zX l D (zT cI cC cM cB cJ) yX5_run cX5_run 2 (some .int) ({ frames := 7, cells := 1, slots := 6, locals := 156 } : Room) [.ref x] (bkW cI cM ad z (txW cC t sg (nI nb) r (xoW x ad h t (hsW cB h ah (nI nx) (nI kp) (hbW cI cM ah zh wr))))) (bkW cI cM ad ((mdX sg (feR sg (rstR r) 0 nb) n nb z 0 0 (nb + 1)).1) (txW cC t sg 0 ((mdX sg (feR sg (rstR r) 0 nb) n nb z 0 0 (nb + 1)).2.2) (xoW x ad h t (hsW cB h ah (nI ((nx + 1) % 6)) (nI (min (kp + 1) 6)) (hbW cI cM ah (zup zh nx z) wr))))) (bkW cI cM ad z (txW cC t sg (nI nb) (feR sg (rstR r) 0 nb) (xoW x ad h t (hsW cB h ah (nI nx) (nI kp) (hbW cI cM ah zh wr))))) (some (.int (mdX sg (feR sg (rstR r) 0 nb) n nb z 0 0 (nb + 1)).2.1)) "java/lang/IllegalArgumentException" "" "" (kRun sg r nb) 1 6 := by
  refine z_enterX (by decide) (Nat.le_of_ble_eq_true rfl) ?_
  intro p e s m below meth c A S hr hlocks hX hJ hN hA hK hP hD hS ls hl
  obtain ⟨hx, hb, hml, hown, hts⟩ := id S
  have hl : lv_has ls 2 [(0, .ref x)] := hl
  have hP : va_P D vwCl (bkW cI cM ad z (txW cC t sg (nI nb) r (xoW x ad h t (hsW cB h ah (nI nx) (nI kp) (hbW cI cM ah zh wr))))) s.heap := hP
  have hD : va_D A (bkW cI cM ad z (txW cC t sg (nI nb) r (xoW x ad h t (hsW cB h ah (nI nx) (nI kp) (hbW cI cM ah zh wr))))) := hD
  refine lv_aload_n hx hb dX5_run_0 rfl (lv_at hl 0 rfl) ?_
  refine va_get (v := .ref (t 0)) hx hb hts inTX5 hown hK hP (19 + (3 + (0))) ((bk_r).trans ((tx_r).trans (xo_0))) rfl 2 (by decide) (hts _ qf_X5_26) (fun _ h9 => h9) (rfl) dX5_run_1 ?_
  refine z_callV1 (rest := []) S (c_X2_isWholeRow (n := nb) (by omega)) qm_X5_187 v_X2_isWholeRow ⟨Nat.le_of_ble_eq_true rfl, Nat.le_of_ble_eq_true rfl⟩ rfl rfl hN hK hP hD hS hA (19 + (0)) ((bk_r).trans (tx_0)) rfl rfl hl.1 rfl (Nat.le_of_ble_eq_true rfl) dX5_run_4 ⟨Nat.le_of_ble_eq_true rfl, Nat.le_of_ble_eq_true rfl⟩ (fun H locs hP hD hS => ?_)
  refine lv_if_ne (tgt := 20) hx hb dX5_run_7 (by decide) (fun c1 => ?_) (fun c1 => ?_)
  · have c1 := bI_1 c1
    refine lv_aload_n hx hb dX5_run_20 rfl (lv_at hl 0 rfl) ?_
    refine va_get (v := .ref (h 0)) hx hb hts inTX5 hown hK hP (19 + (3 + (0))) ((bk_r).trans ((tx_r).trans (xo_0))) rfl 1 (by decide) (hts _ qf_X5_19) (fun _ h9 => h9) (rfl) dX5_run_21 ?_
    refine lv_aload_n hx hb dX5_run_24 rfl (lv_at hl 0 rfl) ?_
    refine va_get (v := .ref (ad 0)) hx hb hts inTX5 hown hK hP (19 + (3 + (0))) ((bk_r).trans ((tx_r).trans (xo_0))) rfl 0 (by decide) (hts _ qf_X5_10) (fun _ h9 => h9) (rfl) dX5_run_25 ?_
    refine z_callV0 (rest := []) S (c_X3_keep hnx hkp hB) qm_X5_41 v_X3_keep ⟨Nat.le_of_ble_eq_true rfl, Nat.le_of_ble_eq_true rfl⟩ rfl rfl hN hK hP hD hS hA (19 + (3 + (1 + (0)))) ((bk_r).trans ((tx_r).trans ((xo_r).trans (hs_0)))) rfl rfl hl.1 rfl (Nat.le_of_ble_eq_true rfl) dX5_run_28 ⟨Nat.le_of_ble_eq_true rfl, Nat.le_of_ble_eq_true rfl⟩ (fun H locs hP hD hS => ?_)
    refine lv_aload_n hx hb dX5_run_31 rfl (lv_at hl 0 rfl) ?_
    refine va_get (v := .ref (t 0)) hx hb hts inTX5 hown hK hP (19 + (3 + (0))) ((bk_r).trans ((tx_r).trans (xo_0))) rfl 2 (by decide) (hts _ qf_X5_26) (fun _ h9 => h9) (rfl) dX5_run_32 ?_
    refine lv_aload_n hx hb dX5_run_35 rfl (lv_at hl 0 rfl) ?_
    refine va_get (v := .ref (ad 0)) hx hb hts inTX5 hown hK hP (19 + (3 + (0))) ((bk_r).trans ((tx_r).trans (xo_0))) rfl 0 (by decide) (hts _ qf_X5_10) (fun _ h9 => h9) (rfl) dX5_run_36 ?_
    refine z_callV1 (rest := []) S (c_X2_makeDeals (n := n) (show n ≤ 8 by omega) (hz) (N := nb) (by omega) (whole_rows (by omega) c1)) qm_X5_192 v_X2_makeDeals ⟨Nat.le_of_ble_eq_true rfl, Nat.le_of_ble_eq_true rfl⟩ rfl rfl hN hK hP hD hS hA (19 + (0)) ((bk_r).trans (tx_0)) rfl rfl hl.1 rfl (Nat.le_of_ble_eq_true rfl) dX5_run_39 ⟨Nat.le_of_ble_eq_true rfl, Nat.le_of_ble_eq_true rfl⟩ (fun H locs hP hD hS => ?_)
    refine lv_istore_n (lv' := [(1, .int ((mdX sg (feR sg (rstR r) 0 nb) n nb z 0 0 (nb + 1)).2.1)), (0, .ref x)]) hx hb dX5_run_42 rfl hl (by decide) rfl (fun ls hl => ?_)
    refine lv_aload_n hx hb dX5_run_43 rfl (lv_at hl 1 rfl) ?_
    refine va_get (v := .ref (t 0)) hx hb hts inTX5 hown hK hP (19 + (3 + (0))) ((bk_r).trans ((tx_r).trans (xo_0))) rfl 2 (by decide) (hts _ qf_X5_26) (fun _ h9 => h9) (rfl) dX5_run_44 ?_
    refine lv_iconst (v := 0) hx hb dX5_run_47 (by decide) ?_
    refine z_put (v := .int 0) (ty := .int) (ws2 := bkW cI cM ad ((mdX sg (feR sg (rstR r) 0 nb) n nb z 0 0 (nb + 1)).1) (txW cC t sg 0 ((mdX sg (feR sg (rstR r) 0 nb) n nb z 0 0 (nb + 1)).2.2) (xoW x ad h t (hsW cB h ah (nI ((nx + 1) % 6)) (nI (min (kp + 1) 6)) (hbW cI cM ah (zup zh nx z) wr))))) hx hb hts inTX2 tyX2 tyX2_ok nmX2 hown hK hP hD hS (19 + (0)) ((bk_r).trans (tx_0)) rfl 2 (by decide) (hts _ qf_X5_175) (fun _ h9 => h9) rfl (by decide +kernel) (rfl) (rfl) (Nat.le_of_ble_eq_true rfl) dX5_run_48 ((bk_rs).trans (congrArg (fun w_ => bkW cI cM ad ((mdX sg (feR sg (rstR r) 0 nb) n nb z 0 0 (nb + 1)).1) w_) (rfl))) (fun H locs hP hD hS => ?_)
    refine lv_iload_n hx hb dX5_run_51 rfl (lv_at hl 0 rfl) ?_
    refine W.widen (k := 1) (n := 6) (by decide) (by decide) ?_
    exact z_xiret hx hb hr hlocks hP hD hK hS (by first | (simp only [kRun, mP, sP, inP, cl, alwP, alwM, cvP, whP, c1, not_true_eq_false, not_false_eq_true, and_self, and_true, true_and, and_false, false_and, or_true, true_or, or_false, false_or, if_true, if_false, ite_true, ite_false]; done) | (simp [kRun, mP, sP, inP, cl, alwP, alwM, cvP, whP, c1]; done) | (simp_all [kRun, mP, sP, inP, cl, alwP, alwM, cvP, whP]; done)) (rfl) (by first | rfl | (simp only [minP, maxP, c1, not_true_eq_false, not_false_eq_true, and_self, and_true, true_and, and_false, false_and, or_true, true_or, or_false, false_or, if_true, if_false, ite_true, ite_false]; done) | (simp [minP, maxP, c1]; done) | (simp_all [minP, maxP]; done)) dX5_run_52
  · have c1 := bI_0 c1
    refine z_throw (rest := []) (cls := "java/lang/IllegalArgumentException") (text := "the buffer is not a complete row of deals") hfl S hlocks hX hJ hK hP hD hS (rfl) hl.1 (by decide) qk_X5_85 qn_IllegalArgumentException at_IAE_g (fun w h => zBadX_in.1 w (at_IAE_b w h)) at_IAE_t (by decide) (z_k0 (k := 1) (by first | (simp only [kRun, mP, sP, inP, cl, alwP, alwM, cvP, whP, c1, not_true_eq_false, not_false_eq_true, and_self, and_true, true_and, and_false, false_and, or_true, true_or, or_false, false_or, if_true, if_false, ite_true, ite_false]; done) | (simp [kRun, mP, sP, inP, cl, alwP, alwM, cvP, whP, c1]; done) | (simp_all [kRun, mP, sP, inP, cl, alwP, alwM, cvP, whP]; done)) (by decide)) (z_kE (k := 1) (by first | (simp only [kRun, mP, sP, inP, cl, alwP, alwM, cvP, whP, c1, not_true_eq_false, not_false_eq_true, and_self, and_true, true_and, and_false, false_and, or_true, true_or, or_false, false_or, if_true, if_false, ite_true, ite_false]; done) | (simp [kRun, mP, sP, inP, cl, alwP, alwM, cvP, whP, c1]; done) | (simp_all [kRun, mP, sP, inP, cl, alwP, alwM, cvP, whP]; done)) (by decide)) (by decide) (by decide) dX5_run_10 dX5_run_13 dX5_run_14 dX5_run_16 dX5_run_19 (by decide) (by decide)
set_option maxHeartbeats 4000000 in
set_option maxRecDepth 100000 in
theorem c_X5_undo (hfl : l.stackTraces = false) {nx kp : Nat} (hnx : nx < 6) (hkp : kp ≤ 6) (hBh : ∀ i : Nat, i < 6 → hBool (zh i)) : zX l D (zT cI cC cM cB cJ) yX5_undo cX5_undo 1 (some .int) ({ frames := 6, cells := 1, slots := 6, locals := 90 } : Room) [.ref x] (bkW cI cM ad z (txW cC t sg sz r (xoW x ad h t (hsW cB h ah (nI nx) (nI kp) (hbW cI cM ah zh wr))))) (bkW cI cM ad (zh ((nx + 5) % 6)) (txW cC t sg sz r (xoW x ad h t (hsW cB h ah (nI ((nx + 5) % 6)) (nI kp - 1) (hbW cI cM ah zh wr))))) (bkW cI cM ad z (txW cC t sg sz r (xoW x ad h t (hsW cB h ah (nI nx) (nI kp) (hbW cI cM ah zh wr))))) (some (.int (nI kp - 1))) "java/lang/IllegalStateException" "" "" (kUndo kp) 1 6 := by
  refine z_enterX (by decide) (Nat.le_of_ble_eq_true rfl) ?_
  intro p e s m below meth c A S hr hlocks hX hJ hN hA hK hP hD hS ls hl
  obtain ⟨hx, hb, hml, hown, hts⟩ := id S
  have hl : lv_has ls 1 [(0, .ref x)] := hl
  have hP : va_P D vwCl (bkW cI cM ad z (txW cC t sg sz r (xoW x ad h t (hsW cB h ah (nI nx) (nI kp) (hbW cI cM ah zh wr))))) s.heap := hP
  have hD : va_D A (bkW cI cM ad z (txW cC t sg sz r (xoW x ad h t (hsW cB h ah (nI nx) (nI kp) (hbW cI cM ah zh wr))))) := hD
  refine lv_aload_n hx hb dX5_undo_0 rfl (lv_at hl 0 rfl) ?_
  refine va_get (v := .ref (h 0)) hx hb hts inTX5 hown hK hP (19 + (3 + (0))) ((bk_r).trans ((tx_r).trans (xo_0))) rfl 1 (by decide) (hts _ qf_X5_19) (fun _ h9 => h9) (rfl) dX5_undo_1 ?_
  refine va_get (v := .int (nI kp)) hx hb hts inTX3 hown hK hP (19 + (3 + (1 + (0)))) ((bk_r).trans ((tx_r).trans ((xo_r).trans (hs_0)))) rfl 2 (by decide) (hts _ qf_X5_196) (fun _ h9 => h9) (rfl) dX5_undo_4 ?_
  refine lv_iconst (v := 1) hx hb dX5_undo_7 (by decide) ?_
  refine lv_icmp_ge (tgt := 21) hx hb dX5_undo_8 (by decide) (fun c1 => ?_) (fun c1 => ?_)
  · have c1 := z_nlt c1
    refine lv_aload_n hx hb dX5_undo_21 rfl (lv_at hl 0 rfl) ?_
    refine va_get (v := .ref (h 0)) hx hb hts inTX5 hown hK hP (19 + (3 + (0))) ((bk_r).trans ((tx_r).trans (xo_0))) rfl 1 (by decide) (hts _ qf_X5_19) (fun _ h9 => h9) (rfl) dX5_undo_22 ?_
    refine lv_aload_n hx hb dX5_undo_25 rfl (lv_at hl 0 rfl) ?_
    refine va_get (v := .ref (ad 0)) hx hb hts inTX5 hown hK hP (19 + (3 + (0))) ((bk_r).trans ((tx_r).trans (xo_0))) rfl 0 (by decide) (hts _ qf_X5_10) (fun _ h9 => h9) (rfl) dX5_undo_26 ?_
    refine z_callV0 (rest := []) S (c_X3_restore hnx hkp (hBh _ (by omega))) qm_X5_201 v_X3_restore ⟨Nat.le_of_ble_eq_true rfl, Nat.le_of_ble_eq_true rfl⟩ rfl rfl hN hK hP hD hS hA (19 + (3 + (1 + (0)))) ((bk_r).trans ((tx_r).trans ((xo_r).trans (hs_0)))) rfl rfl hl.1 rfl (Nat.le_of_ble_eq_true rfl) dX5_undo_29 ⟨Nat.le_of_ble_eq_true rfl, Nat.le_of_ble_eq_true rfl⟩ (fun H locs hP hD hS => ?_)
    refine lv_aload_n hx hb dX5_undo_32 rfl (lv_at hl 0 rfl) ?_
    refine va_get (v := .ref (h 0)) hx hb hts inTX5 hown hK hP (19 + (3 + (0))) ((bk_r).trans ((tx_r).trans (xo_0))) rfl 1 (by decide) (hts _ qf_X5_19) (fun _ h9 => h9) (rfl) dX5_undo_33 ?_
    refine va_get (v := .int (nI kp - 1)) hx hb hts inTX3 hown hK hP (19 + (3 + (1 + (0)))) ((bk_r).trans ((tx_r).trans ((xo_r).trans (hs_0)))) rfl 2 (by decide) (hts _ qf_X5_196) (fun _ h9 => h9) (rfl) dX5_undo_36 ?_
    refine W.widen (k := 1) (n := 6) (by decide) (by decide) ?_
    exact z_xiret hx hb hr hlocks hP hD hK hS (by first | (simp only [kUndo, mP, sP, inP, cl, alwP, alwM, cvP, whP, c1, not_true_eq_false, not_false_eq_true, and_self, and_true, true_and, and_false, false_and, or_true, true_or, or_false, false_or, if_true, if_false, ite_true, ite_false]; done) | (simp [kUndo, mP, sP, inP, cl, alwP, alwM, cvP, whP, c1]; done) | (simp_all [kUndo, mP, sP, inP, cl, alwP, alwM, cvP, whP]; done)) (rfl) (by first | rfl | (simp only [minP, maxP, c1, not_true_eq_false, not_false_eq_true, and_self, and_true, true_and, and_false, false_and, or_true, true_or, or_false, false_or, if_true, if_false, ite_true, ite_false]; done) | (simp [minP, maxP, c1]; done) | (simp_all [minP, maxP]; done)) dX5_undo_39
  · have c1 := z_lt c1
    refine z_throw (rest := []) (cls := "java/lang/IllegalStateException") (text := "there is no saved state") hfl S hlocks hX hJ hK hP hD hS (rfl) hl.1 (by decide) qk_X5_34 qn_IllegalStateException at_ISE_g (fun w h => zBadX_in.2.1 w (at_ISE_b w h)) at_ISE_t (by decide) (z_k0 (k := 1) (by first | (simp only [kUndo, mP, sP, inP, cl, alwP, alwM, cvP, whP, c1, not_true_eq_false, not_false_eq_true, and_self, and_true, true_and, and_false, false_and, or_true, true_or, or_false, false_or, if_true, if_false, ite_true, ite_false]; done) | (simp [kUndo, mP, sP, inP, cl, alwP, alwM, cvP, whP, c1]; done) | (simp_all [kUndo, mP, sP, inP, cl, alwP, alwM, cvP, whP]; done)) (by decide)) (z_kE (k := 1) (by first | (simp only [kUndo, mP, sP, inP, cl, alwP, alwM, cvP, whP, c1, not_true_eq_false, not_false_eq_true, and_self, and_true, true_and, and_false, false_and, or_true, true_or, or_false, false_or, if_true, if_false, ite_true, ite_false]; done) | (simp [kUndo, mP, sP, inP, cl, alwP, alwM, cvP, whP, c1]; done) | (simp_all [kUndo, mP, sP, inP, cl, alwP, alwM, cvP, whP]; done)) (by decide)) (by decide) (by decide) dX5_undo_11 dX5_undo_14 dX5_undo_15 dX5_undo_17 dX5_undo_20 (by decide) (by decide)
set_option maxHeartbeats 4000000 in
set_option maxRecDepth 100000 in
theorem c_X5_member (hfl : l.stackTraces = false) {n : Nat} (hn : n ≤ 8) (hz : z 5 = nI n) {nx kp : Nat} (mb xx : Int32) : zX l D (zT cI cC cM cB cJ) yX5_member cX5_member 3 (some .int) ({ frames := 6, cells := 1, slots := 6, locals := 90 } : Room) [.ref x, .int mb, .int xx] (bkW cI cM ad z (txW cC t sg sz r (xoW x ad h t (hsW cB h ah (nI nx) (nI kp) (hbW cI cM ah zh wr))))) (bkW cI cM ad z (txW cC t sg sz r (xoW x ad h t (hsW cB h ah (nI nx) (nI kp) (hbW cI cM ah zh wr))))) (bkW cI cM ad z (txW cC t sg sz r (xoW x ad h t (hsW cB h ah (nI nx) (nI kp) (hbW cI cM ah zh wr))))) (some (.int (prpP z (cl mb) xx))) "java/lang/IndexOutOfBoundsException" "java/lang/IllegalArgumentException" "" (kMember n mb xx) 1 6 := by
  refine z_enterX (by decide) (Nat.le_of_ble_eq_true rfl) ?_
  intro p e s m below meth c A S hr hlocks hX hJ hN hA hK hP hD hS ls hl
  obtain ⟨hx, hb, hml, hown, hts⟩ := id S
  have hl : lv_has ls 3 [(0, .ref x), (1, .int mb), (2, .int xx)] := hl
  have hP : va_P D vwCl (bkW cI cM ad z (txW cC t sg sz r (xoW x ad h t (hsW cB h ah (nI nx) (nI kp) (hbW cI cM ah zh wr))))) s.heap := hP
  have hD : va_D A (bkW cI cM ad z (txW cC t sg sz r (xoW x ad h t (hsW cB h ah (nI nx) (nI kp) (hbW cI cM ah zh wr))))) := hD
  refine lv_aload_n hx hb dX5_member_0 rfl (lv_at hl 0 rfl) ?_
  refine va_get (v := .ref (ad 0)) hx hb hts inTX5 hown hK hP (19 + (3 + (0))) ((bk_r).trans ((tx_r).trans (xo_0))) rfl 0 (by decide) (hts _ qf_X5_10) (fun _ h9 => h9) (rfl) dX5_member_1 ?_
  refine lv_iload_n hx hb dX5_member_4 rfl (lv_at hl 1 rfl) ?_
  refine z_callV1 (rest := []) S (c_X0_isMember (n := n) (show n ≤ 8 by omega) (hz) mb) qm_X5_49 v_X0_isMember ⟨Nat.le_of_ble_eq_true rfl, Nat.le_of_ble_eq_true rfl⟩ rfl rfl hN hK hP hD hS hA (0) (bk_0) rfl rfl hl.1 rfl (Nat.le_of_ble_eq_true rfl) dX5_member_5 ⟨Nat.le_of_ble_eq_true rfl, Nat.le_of_ble_eq_true rfl⟩ (fun H locs hP hD hS => ?_)
  refine lv_if_ne (tgt := 21) hx hb dX5_member_8 (by decide) (fun c1 => ?_) (fun c1 => ?_)
  · have c1 := bI_1 c1
    obtain ⟨j, hj, rfl⟩ := mem_nat hn c1
    refine lv_iload_n hx hb dX5_member_21 rfl (lv_at hl 2 rfl) ?_
    refine lv_iconst (v := 0) hx hb dX5_member_22 (by decide) ?_
    refine lv_bipush (v := 11) hx hb dX5_member_23 (by decide) ?_
    refine z_callS1 (rest := []) S (c_X5_isWithin xx 0 11) qm_X5_100 t_X5_isWithin ⟨Nat.le_of_ble_eq_true rfl, Nat.le_of_ble_eq_true rfl⟩ rfl rfl hN hK hP hD hS hA rfl hl.1 rfl (Nat.le_of_ble_eq_true rfl) dX5_member_25 ⟨Nat.le_of_ble_eq_true rfl, Nat.le_of_ble_eq_true rfl⟩ (fun H locs hP hD hS => ?_)
    refine lv_if_ne (tgt := 41) hx hb dX5_member_28 (by decide) (fun c2 => ?_) (fun c2 => ?_)
    · have c2 := bI_1 c2
      refine lv_aload_n hx hb dX5_member_41 rfl (lv_at hl 0 rfl) ?_
      refine va_get (v := .ref (ad 0)) hx hb hts inTX5 hown hK hP (19 + (3 + (0))) ((bk_r).trans ((tx_r).trans (xo_0))) rfl 0 (by decide) (hts _ qf_X5_10) (fun _ h9 => h9) (rfl) dX5_member_42 ?_
      refine lv_iload_n hx hb dX5_member_45 rfl (lv_at hl 1 rfl) ?_
      refine lv_iload_n hx hb dX5_member_46 rfl (lv_at hl 2 rfl) ?_
      refine z_callV1 (rest := []) S (c_X0_memberProperty j (show j < 8 by omega) xx) qm_X5_206 v_X0_memberProperty ⟨Nat.le_of_ble_eq_true rfl, Nat.le_of_ble_eq_true rfl⟩ rfl rfl hN hK hP hD hS hA (0) (bk_0) rfl rfl hl.1 rfl (Nat.le_of_ble_eq_true rfl) dX5_member_47 ⟨Nat.le_of_ble_eq_true rfl, Nat.le_of_ble_eq_true rfl⟩ (fun H locs hP hD hS => ?_)
      refine W.widen (k := 1) (n := 6) (by decide) (by decide) ?_
      exact z_xiret hx hb hr hlocks hP hD hK hS (by first | (simp only [kMember, mP, sP, inP, cl, alwP, alwM, cvP, whP, c1, nI_clamp (show j < 2 ^ 31 by omega), c2, not_true_eq_false, not_false_eq_true, and_self, and_true, true_and, and_false, false_and, or_true, true_or, or_false, false_or, if_true, if_false, ite_true, ite_false]; done) | (simp [kMember, mP, sP, inP, cl, alwP, alwM, cvP, whP, c1, nI_clamp (show j < 2 ^ 31 by omega), c2]; done) | (simp_all [kMember, mP, sP, inP, cl, alwP, alwM, cvP, whP]; done)) (rfl) (by first | rfl | (simp only [minP, maxP, c1, nI_clamp (show j < 2 ^ 31 by omega), c2, not_true_eq_false, not_false_eq_true, and_self, and_true, true_and, and_false, false_and, or_true, true_or, or_false, false_or, if_true, if_false, ite_true, ite_false]; done) | (simp [minP, maxP, c1, nI_clamp (show j < 2 ^ 31 by omega), c2]; done) | (simp_all [minP, maxP]; done)) dX5_member_50
    · have c2 := bI_0 c2
      refine z_throw (rest := []) (cls := "java/lang/IllegalArgumentException") (text := "what is not 0 to 11") hfl S hlocks hX hJ hK hP hD hS (rfl) hl.1 (by decide) qk_X5_85 qn_IllegalArgumentException at_IAE_g (fun w h => zBadX_in.1 w (at_IAE_b w h)) at_IAE_t (by decide) (z_k0 (k := 2) (by first | (simp only [kMember, mP, sP, inP, cl, alwP, alwM, cvP, whP, c1, nI_clamp (show j < 2 ^ 31 by omega), c2, not_true_eq_false, not_false_eq_true, and_self, and_true, true_and, and_false, false_and, or_true, true_or, or_false, false_or, if_true, if_false, ite_true, ite_false]; done) | (simp [kMember, mP, sP, inP, cl, alwP, alwM, cvP, whP, c1, nI_clamp (show j < 2 ^ 31 by omega), c2]; done) | (simp_all [kMember, mP, sP, inP, cl, alwP, alwM, cvP, whP]; done)) (by decide)) (z_kE (k := 2) (by first | (simp only [kMember, mP, sP, inP, cl, alwP, alwM, cvP, whP, c1, nI_clamp (show j < 2 ^ 31 by omega), c2, not_true_eq_false, not_false_eq_true, and_self, and_true, true_and, and_false, false_and, or_true, true_or, or_false, false_or, if_true, if_false, ite_true, ite_false]; done) | (simp [kMember, mP, sP, inP, cl, alwP, alwM, cvP, whP, c1, nI_clamp (show j < 2 ^ 31 by omega), c2]; done) | (simp_all [kMember, mP, sP, inP, cl, alwP, alwM, cvP, whP]; done)) (by decide)) (by decide) (by decide) dX5_member_31 dX5_member_34 dX5_member_35 dX5_member_37 dX5_member_40 (by decide) (by decide)
  · have c1 := bI_0 c1
    refine z_throw (rest := []) (cls := "java/lang/IndexOutOfBoundsException") (text := "no such member") hfl S hlocks hX hJ hK hP hD hS (rfl) hl.1 (by decide) qk_X5_53 qn_IndexOutOfBoundsException at_IOB_g (fun w h => zBadX_in.2.2 w (at_IOB_b w h)) at_IOB_t (by decide) (z_k0 (k := 1) (by first | (simp only [kMember, mP, sP, inP, cl, alwP, alwM, cvP, whP, c1, not_true_eq_false, not_false_eq_true, and_self, and_true, true_and, and_false, false_and, or_true, true_or, or_false, false_or, if_true, if_false, ite_true, ite_false]; done) | (simp [kMember, mP, sP, inP, cl, alwP, alwM, cvP, whP, c1]; done) | (simp_all [kMember, mP, sP, inP, cl, alwP, alwM, cvP, whP]; done)) (by decide)) (z_kE (k := 1) (by first | (simp only [kMember, mP, sP, inP, cl, alwP, alwM, cvP, whP, c1, not_true_eq_false, not_false_eq_true, and_self, and_true, true_and, and_false, false_and, or_true, true_or, or_false, false_or, if_true, if_false, ite_true, ite_false]; done) | (simp [kMember, mP, sP, inP, cl, alwP, alwM, cvP, whP, c1]; done) | (simp_all [kMember, mP, sP, inP, cl, alwP, alwM, cvP, whP]; done)) (by decide)) (by decide) (by decide) dX5_member_11 dX5_member_14 dX5_member_15 dX5_member_17 dX5_member_20 (by decide) (by decide)
set_option maxHeartbeats 4000000 in
set_option maxRecDepth 100000 in
theorem c_X5_skill (hfl : l.stackTraces = false) {n : Nat} (hn : n ≤ 8) (hz : z 5 = nI n) {nx kp : Nat} (mb sk xx : Int32) : zX l D (zT cI cC cM cB cJ) yX5_skill cX5_skill 4 (some .int) ({ frames := 6, cells := 1, slots := 6, locals := 90 } : Room) [.ref x, .int mb, .int sk, .int xx] (bkW cI cM ad z (txW cC t sg sz r (xoW x ad h t (hsW cB h ah (nI nx) (nI kp) (hbW cI cM ah zh wr))))) (bkW cI cM ad z (txW cC t sg sz r (xoW x ad h t (hsW cB h ah (nI nx) (nI kp) (hbW cI cM ah zh wr))))) (bkW cI cM ad z (txW cC t sg sz r (xoW x ad h t (hsW cB h ah (nI nx) (nI kp) (hbW cI cM ah zh wr))))) (some (.int (if xx = 0 then z (25 + 16 * cl mb + cl sk) else ripeP (z (25 + 16 * cl mb + cl sk))))) "java/lang/IndexOutOfBoundsException" "java/lang/IllegalArgumentException" "" (kSkill n mb sk xx) 1 6 := by
  refine z_enterX (by decide) (Nat.le_of_ble_eq_true rfl) ?_
  intro p e s m below meth c A S hr hlocks hX hJ hN hA hK hP hD hS ls hl
  obtain ⟨hx, hb, hml, hown, hts⟩ := id S
  have hl : lv_has ls 4 [(0, .ref x), (1, .int mb), (2, .int sk), (3, .int xx)] := hl
  have hP : va_P D vwCl (bkW cI cM ad z (txW cC t sg sz r (xoW x ad h t (hsW cB h ah (nI nx) (nI kp) (hbW cI cM ah zh wr))))) s.heap := hP
  have hD : va_D A (bkW cI cM ad z (txW cC t sg sz r (xoW x ad h t (hsW cB h ah (nI nx) (nI kp) (hbW cI cM ah zh wr))))) := hD
  refine lv_aload_n hx hb dX5_skill_0 rfl (lv_at hl 0 rfl) ?_
  refine va_get (v := .ref (ad 0)) hx hb hts inTX5 hown hK hP (19 + (3 + (0))) ((bk_r).trans ((tx_r).trans (xo_0))) rfl 0 (by decide) (hts _ qf_X5_10) (fun _ h9 => h9) (rfl) dX5_skill_1 ?_
  refine lv_iload_n hx hb dX5_skill_4 rfl (lv_at hl 1 rfl) ?_
  refine z_callV1 (rest := []) S (c_X0_isMember (n := n) (show n ≤ 8 by omega) (hz) mb) qm_X5_49 v_X0_isMember ⟨Nat.le_of_ble_eq_true rfl, Nat.le_of_ble_eq_true rfl⟩ rfl rfl hN hK hP hD hS hA (0) (bk_0) rfl rfl hl.1 rfl (Nat.le_of_ble_eq_true rfl) dX5_skill_5 ⟨Nat.le_of_ble_eq_true rfl, Nat.le_of_ble_eq_true rfl⟩ (fun H locs hP hD hS => ?_)
  refine lv_if_eq (tgt := 18) hx hb dX5_skill_8 (by decide) (fun c1 => ?_) (fun c1 => ?_)
  · have c1 := bI_0 c1
    refine z_throw (rest := []) (cls := "java/lang/IndexOutOfBoundsException") (text := "no such member or skill") hfl S hlocks hX hJ hK hP hD hS (rfl) hl.1 (by decide) qk_X5_53 qn_IndexOutOfBoundsException at_IOB_g (fun w h => zBadX_in.2.2 w (at_IOB_b w h)) at_IOB_t (by decide) (z_k0 (k := 1) (by first | (simp only [kSkill, mP, sP, inP, cl, alwP, alwM, cvP, whP, c1, not_true_eq_false, not_false_eq_true, and_self, and_true, true_and, and_false, false_and, or_true, true_or, or_false, false_or, if_true, if_false, ite_true, ite_false]; done) | (simp [kSkill, mP, sP, inP, cl, alwP, alwM, cvP, whP, c1]; done) | (simp_all [kSkill, mP, sP, inP, cl, alwP, alwM, cvP, whP]; done)) (by decide)) (z_kE (k := 1) (by first | (simp only [kSkill, mP, sP, inP, cl, alwP, alwM, cvP, whP, c1, not_true_eq_false, not_false_eq_true, and_self, and_true, true_and, and_false, false_and, or_true, true_or, or_false, false_or, if_true, if_false, ite_true, ite_false]; done) | (simp [kSkill, mP, sP, inP, cl, alwP, alwM, cvP, whP, c1]; done) | (simp_all [kSkill, mP, sP, inP, cl, alwP, alwM, cvP, whP]; done)) (by decide)) (by decide) (by decide) dX5_skill_18 dX5_skill_21 dX5_skill_22 dX5_skill_24 dX5_skill_27 (by decide) (by decide)
  · have c1 := bI_1 c1
    obtain ⟨j, hj, rfl⟩ := mem_nat hn c1
    refine lv_iload_n hx hb dX5_skill_11 rfl (lv_at hl 2 rfl) ?_
    refine z_callS1 (rest := []) S (c_X5_isSkill sk) qm_X5_77 t_X5_isSkill ⟨Nat.le_of_ble_eq_true rfl, Nat.le_of_ble_eq_true rfl⟩ rfl rfl hN hK hP hD hS hA rfl hl.1 rfl (Nat.le_of_ble_eq_true rfl) dX5_skill_12 ⟨Nat.le_of_ble_eq_true rfl, Nat.le_of_ble_eq_true rfl⟩ (fun H locs hP hD hS => ?_)
    refine lv_if_ne (tgt := 28) hx hb dX5_skill_15 (by decide) (fun c2 => ?_) (fun c2 => ?_)
    · have c2 := bI_1 c2
      obtain ⟨k_, hk_, rfl⟩ := skl_nat c2
      refine lv_iload_n hx hb dX5_skill_28 rfl (lv_at hl 3 rfl) ?_
      refine lv_iconst (v := 0) hx hb dX5_skill_29 (by decide) ?_
      refine lv_iconst (v := 1) hx hb dX5_skill_30 (by decide) ?_
      refine z_callS1 (rest := []) S (c_X5_isWithin xx 0 1) qm_X5_100 t_X5_isWithin ⟨Nat.le_of_ble_eq_true rfl, Nat.le_of_ble_eq_true rfl⟩ rfl rfl hN hK hP hD hS hA rfl hl.1 rfl (Nat.le_of_ble_eq_true rfl) dX5_skill_31 ⟨Nat.le_of_ble_eq_true rfl, Nat.le_of_ble_eq_true rfl⟩ (fun H locs hP hD hS => ?_)
      refine lv_if_ne (tgt := 47) hx hb dX5_skill_34 (by decide) (fun c3 => ?_) (fun c3 => ?_)
      · have c3 := bI_1 c3
        refine lv_iload_n hx hb dX5_skill_47 rfl (lv_at hl 3 rfl) ?_
        refine lv_if_ne (tgt := 68) hx hb dX5_skill_48 (by decide) (fun c4 => ?_) (fun c4 => ?_)
        · skip
          refine lv_aload_n hx hb dX5_skill_68 rfl (lv_at hl 0 rfl) ?_
          refine va_get (v := .ref (ad 0)) hx hb hts inTX5 hown hK hP (19 + (3 + (0))) ((bk_r).trans ((tx_r).trans (xo_0))) rfl 0 (by decide) (hts _ qf_X5_10) (fun _ h9 => h9) (rfl) dX5_skill_69 ?_
          refine va_get (v := .ref (ad 1)) hx hb hts inTX0 hown hK hP (0) (bk_0) rfl 0 (by decide) (hts _ qf_X5_58) (fun _ h9 => h9) (rfl) dX5_skill_72 ?_
          refine lv_iload_n hx hb dX5_skill_75 rfl (lv_at hl 1 rfl) ?_
          refine va_aldq hx hb hK hP (1) 2 (bk_1) rfl (vp_in_nI (show j < 8 by omega) (by omega)) dX5_skill_76 ?_
          refine z_top (v2 := .ref (ad (3 + j))) (z_rf rfl) ?_
          refine lv_iload_n hx hb dX5_skill_77 rfl (lv_at hl 2 rfl) ?_
          refine z_callV1 (rest := []) S (c_X4_ripeness j k_ (show j < 8 by omega) (show k_ < 5 by omega)) qm_X5_215 v_X4_ripeness ⟨Nat.le_of_ble_eq_true rfl, Nat.le_of_ble_eq_true rfl⟩ rfl rfl hN hK hP hD hS hA (3 + j) (bk_m (show j < 8 by omega)) rfl rfl hl.1 rfl (Nat.le_of_ble_eq_true rfl) dX5_skill_78 ⟨Nat.le_of_ble_eq_true rfl, Nat.le_of_ble_eq_true rfl⟩ (fun H locs hP hD hS => ?_)
          refine W.widen (k := 1) (n := 6) (by decide) (by decide) ?_
          exact z_xiret hx hb hr hlocks hP hD hK hS (by first | (simp only [kSkill, mP, sP, inP, cl, alwP, alwM, cvP, whP, c1, nI_clamp (show j < 2 ^ 31 by omega), c2, nI_clamp (show k_ < 2 ^ 31 by omega), c3, c4, not_true_eq_false, not_false_eq_true, and_self, and_true, true_and, and_false, false_and, or_true, true_or, or_false, false_or, if_true, if_false, ite_true, ite_false]; done) | (simp [kSkill, mP, sP, inP, cl, alwP, alwM, cvP, whP, c1, nI_clamp (show j < 2 ^ 31 by omega), c2, nI_clamp (show k_ < 2 ^ 31 by omega), c3, c4]; done) | (simp_all [kSkill, mP, sP, inP, cl, alwP, alwM, cvP, whP]; done)) (rfl) (by first | rfl | (simp only [minP, maxP, c1, nI_clamp (show j < 2 ^ 31 by omega), c2, nI_clamp (show k_ < 2 ^ 31 by omega), c3, c4, not_true_eq_false, not_false_eq_true, and_self, and_true, true_and, and_false, false_and, or_true, true_or, or_false, false_or, if_true, if_false, ite_true, ite_false]; done) | (simp [minP, maxP, c1, nI_clamp (show j < 2 ^ 31 by omega), c2, nI_clamp (show k_ < 2 ^ 31 by omega), c3, c4]; done) | (simp_all [minP, maxP]; done)) dX5_skill_81
        · skip
          refine lv_aload_n hx hb dX5_skill_51 rfl (lv_at hl 0 rfl) ?_
          refine va_get (v := .ref (ad 0)) hx hb hts inTX5 hown hK hP (19 + (3 + (0))) ((bk_r).trans ((tx_r).trans (xo_0))) rfl 0 (by decide) (hts _ qf_X5_10) (fun _ h9 => h9) (rfl) dX5_skill_52 ?_
          refine va_get (v := .ref (ad 1)) hx hb hts inTX0 hown hK hP (0) (bk_0) rfl 0 (by decide) (hts _ qf_X5_58) (fun _ h9 => h9) (rfl) dX5_skill_55 ?_
          refine lv_iload_n hx hb dX5_skill_58 rfl (lv_at hl 1 rfl) ?_
          refine va_aldq hx hb hK hP (1) 2 (bk_1) rfl (vp_in_nI (show j < 8 by omega) (by omega)) dX5_skill_59 ?_
          refine z_top (v2 := .ref (ad (3 + j))) (z_rf rfl) ?_
          refine va_get (v := .ref (ad (11 + j))) hx hb hts inTX4 hown hK hP (3 + j) (bk_m (show j < 8 by omega)) rfl 0 (by decide) (hts _ qf_X5_212) (fun _ h9 => h9) (rfl) dX5_skill_60 ?_
          refine lv_iload_n hx hb dX5_skill_63 rfl (lv_at hl 2 rfl) ?_
          refine va_iald hx hb hK hP (11 + j) 0 (bk_p (show j < 8 by omega)) rfl (vp_in_nI (show k_ < 5 by omega) (by omega)) dX5_skill_64 ?_
          refine z_top (v2 := .int (z (25 + 16 * j + k_))) (congrArg Value.int ((pfn_at rfl (show k_ < 5 by omega)).trans (rfl))) ?_
          refine lv_goto (tgt := 81) hx hb dX5_skill_65 (by decide) ?_
          refine W.widen (k := 1) (n := 6) (by decide) (by decide) ?_
          exact z_xiret hx hb hr hlocks hP hD hK hS (by first | (simp only [kSkill, mP, sP, inP, cl, alwP, alwM, cvP, whP, c1, nI_clamp (show j < 2 ^ 31 by omega), c2, nI_clamp (show k_ < 2 ^ 31 by omega), c3, c4, not_true_eq_false, not_false_eq_true, and_self, and_true, true_and, and_false, false_and, or_true, true_or, or_false, false_or, if_true, if_false, ite_true, ite_false]; done) | (simp [kSkill, mP, sP, inP, cl, alwP, alwM, cvP, whP, c1, nI_clamp (show j < 2 ^ 31 by omega), c2, nI_clamp (show k_ < 2 ^ 31 by omega), c3, c4]; done) | (simp_all [kSkill, mP, sP, inP, cl, alwP, alwM, cvP, whP]; done)) (rfl) (by first | rfl | (simp only [minP, maxP, c1, nI_clamp (show j < 2 ^ 31 by omega), c2, nI_clamp (show k_ < 2 ^ 31 by omega), c3, c4, not_true_eq_false, not_false_eq_true, and_self, and_true, true_and, and_false, false_and, or_true, true_or, or_false, false_or, if_true, if_false, ite_true, ite_false]; done) | (simp [minP, maxP, c1, nI_clamp (show j < 2 ^ 31 by omega), c2, nI_clamp (show k_ < 2 ^ 31 by omega), c3, c4]; done) | (simp_all [minP, maxP]; done)) dX5_skill_81
      · have c3 := bI_0 c3
        refine z_throw (rest := []) (cls := "java/lang/IllegalArgumentException") (text := "what is not 0 or 1") hfl S hlocks hX hJ hK hP hD hS (rfl) hl.1 (by decide) qk_X5_85 qn_IllegalArgumentException at_IAE_g (fun w h => zBadX_in.1 w (at_IAE_b w h)) at_IAE_t (by decide) (z_k0 (k := 2) (by first | (simp only [kSkill, mP, sP, inP, cl, alwP, alwM, cvP, whP, c1, nI_clamp (show j < 2 ^ 31 by omega), c2, nI_clamp (show k_ < 2 ^ 31 by omega), c3, not_true_eq_false, not_false_eq_true, and_self, and_true, true_and, and_false, false_and, or_true, true_or, or_false, false_or, if_true, if_false, ite_true, ite_false]; done) | (simp [kSkill, mP, sP, inP, cl, alwP, alwM, cvP, whP, c1, nI_clamp (show j < 2 ^ 31 by omega), c2, nI_clamp (show k_ < 2 ^ 31 by omega), c3]; done) | (simp_all [kSkill, mP, sP, inP, cl, alwP, alwM, cvP, whP]; done)) (by decide)) (z_kE (k := 2) (by first | (simp only [kSkill, mP, sP, inP, cl, alwP, alwM, cvP, whP, c1, nI_clamp (show j < 2 ^ 31 by omega), c2, nI_clamp (show k_ < 2 ^ 31 by omega), c3, not_true_eq_false, not_false_eq_true, and_self, and_true, true_and, and_false, false_and, or_true, true_or, or_false, false_or, if_true, if_false, ite_true, ite_false]; done) | (simp [kSkill, mP, sP, inP, cl, alwP, alwM, cvP, whP, c1, nI_clamp (show j < 2 ^ 31 by omega), c2, nI_clamp (show k_ < 2 ^ 31 by omega), c3]; done) | (simp_all [kSkill, mP, sP, inP, cl, alwP, alwM, cvP, whP]; done)) (by decide)) (by decide) (by decide) dX5_skill_37 dX5_skill_40 dX5_skill_41 dX5_skill_43 dX5_skill_46 (by decide) (by decide)
    · have c2 := bI_0 c2
      refine z_throw (rest := []) (cls := "java/lang/IndexOutOfBoundsException") (text := "no such member or skill") hfl S hlocks hX hJ hK hP hD hS (rfl) hl.1 (by decide) qk_X5_53 qn_IndexOutOfBoundsException at_IOB_g (fun w h => zBadX_in.2.2 w (at_IOB_b w h)) at_IOB_t (by decide) (z_k0 (k := 1) (by first | (simp only [kSkill, mP, sP, inP, cl, alwP, alwM, cvP, whP, c1, nI_clamp (show j < 2 ^ 31 by omega), c2, not_true_eq_false, not_false_eq_true, and_self, and_true, true_and, and_false, false_and, or_true, true_or, or_false, false_or, if_true, if_false, ite_true, ite_false]; done) | (simp [kSkill, mP, sP, inP, cl, alwP, alwM, cvP, whP, c1, nI_clamp (show j < 2 ^ 31 by omega), c2]; done) | (simp_all [kSkill, mP, sP, inP, cl, alwP, alwM, cvP, whP]; done)) (by decide)) (z_kE (k := 1) (by first | (simp only [kSkill, mP, sP, inP, cl, alwP, alwM, cvP, whP, c1, nI_clamp (show j < 2 ^ 31 by omega), c2, not_true_eq_false, not_false_eq_true, and_self, and_true, true_and, and_false, false_and, or_true, true_or, or_false, false_or, if_true, if_false, ite_true, ite_false]; done) | (simp [kSkill, mP, sP, inP, cl, alwP, alwM, cvP, whP, c1, nI_clamp (show j < 2 ^ 31 by omega), c2]; done) | (simp_all [kSkill, mP, sP, inP, cl, alwP, alwM, cvP, whP]; done)) (by decide)) (by decide) (by decide) dX5_skill_18 dX5_skill_21 dX5_skill_22 dX5_skill_24 dX5_skill_27 (by decide) (by decide)
set_option maxHeartbeats 4000000 in
set_option maxRecDepth 100000 in
theorem c_X5_number {n : Nat} (hn : n ≤ 8) (hz : z 5 = nI n) {nx kp : Nat} (xx : Int32) : zM l D (zT cI cC cM cB cJ) yX5_number cX5_number 2 (some .int) ({ frames := 2, cells := 0, slots := 0, locals := 43 } : Room) [.ref x, .int xx] (bkW cI cM ad z (txW cC t sg sz r (xoW x ad h t (hsW cB h ah (nI nx) (nI kp) (hbW cI cM ah zh wr))))) (bkW cI cM ad z (txW cC t sg sz r (xoW x ad h t (hsW cB h ah (nI nx) (nI kp) (hbW cI cM ah zh wr))))) (some (.int (numP z n kp xx))) 0 0 := by
  refine z_enter (by decide) (Nat.le_of_ble_eq_true rfl) ?_
  intro p e s m below meth c A S hr hlocks hnm hN hA hK hP hD hS ls hl
  obtain ⟨hx, hb, hml, hown, hts⟩ := id S
  have hl : lv_has ls 2 [(0, .ref x), (1, .int xx)] := hl
  have hP : va_P D vwCl (bkW cI cM ad z (txW cC t sg sz r (xoW x ad h t (hsW cB h ah (nI nx) (nI kp) (hbW cI cM ah zh wr))))) s.heap := hP
  have hD : va_D A (bkW cI cM ad z (txW cC t sg sz r (xoW x ad h t (hsW cB h ah (nI nx) (nI kp) (hbW cI cM ah zh wr))))) := hD
  refine lv_iload_n hx hb dX5_number_0 rfl (lv_at hl 1 rfl) ?_
  rcases z_cases12 xx with c1 | c1 | c1 | c1 | c1 | c1 | c1 | c1 | c1 | c1 | c1 | c1 | c1 | c1
  · refine lv_tableIn (tgt := 68) (off := 67) hx hb dX5_number_1 (by rw [c1]; decide) (by rw [c1]; decide) (by rw [c1]; decide) (by decide) ?_
    refine lv_aload_n hx hb dX5_number_68 rfl (lv_at hl 0 rfl) ?_
    refine va_get (v := .ref (ad 0)) hx hb hts inTX5 hown hK hP (19 + (3 + (0))) ((bk_r).trans ((tx_r).trans (xo_0))) rfl 0 (by decide) (hts _ qf_X5_10) (fun _ h9 => h9) (rfl) dX5_number_69 ?_
    refine va_get (v := .int (nI n)) hx hb hts inTX0 hown hK hP (0) (bk_0) rfl 2 (by decide) (hts _ qf_X5_30) (fun _ h9 => h9) (congrArg (fun x => some (Value.int x)) (hz)) dX5_number_72 ?_
    exact z_iret hx hb hr hlocks hP hD hK hS (rfl) (by first | rfl | (simp only [numP, minP, maxP, c1, not_true_eq_false, not_false_eq_true, and_self, and_true, true_and, and_false, false_and, or_true, true_or, or_false, false_or, if_true, if_false, ite_true, ite_false]; done) | (simp [numP, minP, maxP, c1]; done) | (simp_all [numP, minP, maxP]; done)) dX5_number_75
  · refine lv_tableIn (tgt := 76) (off := 75) hx hb dX5_number_1 (by rw [c1]; decide) (by rw [c1]; decide) (by rw [c1]; decide) (by decide) ?_
    refine lv_aload_n hx hb dX5_number_76 rfl (lv_at hl 0 rfl) ?_
    refine va_get (v := .ref (ad 0)) hx hb hts inTX5 hown hK hP (19 + (3 + (0))) ((bk_r).trans ((tx_r).trans (xo_0))) rfl 0 (by decide) (hts _ qf_X5_10) (fun _ h9 => h9) (rfl) dX5_number_77 ?_
    refine z_callV1 (rest := []) S (c_X0_countThere (n := n) (show n ≤ 8 by omega) (hz)) qm_X5_270 v_X0_countThere ⟨Nat.le_of_ble_eq_true rfl, Nat.le_of_ble_eq_true rfl⟩ rfl rfl hN hK hP hD hS hA (0) (bk_0) rfl rfl hl.1 rfl (Nat.le_of_ble_eq_true rfl) dX5_number_80 ⟨Nat.le_of_ble_eq_true rfl, Nat.le_of_ble_eq_true rfl⟩ (fun H locs hP hD hS => ?_)
    exact z_iret hx hb hr hlocks hP hD hK hS (rfl) (by first | rfl | (simp only [numP, minP, maxP, c1, not_true_eq_false, not_false_eq_true, and_self, and_true, true_and, and_false, false_and, or_true, true_or, or_false, false_or, if_true, if_false, ite_true, ite_false]; done) | (simp [numP, minP, maxP, c1]; done) | (simp_all [numP, minP, maxP]; done)) dX5_number_83
  · refine lv_tableIn (tgt := 84) (off := 83) hx hb dX5_number_1 (by rw [c1]; decide) (by rw [c1]; decide) (by rw [c1]; decide) (by decide) ?_
    refine lv_aload_n hx hb dX5_number_84 rfl (lv_at hl 0 rfl) ?_
    refine va_get (v := .ref (ad 0)) hx hb hts inTX5 hown hK hP (19 + (3 + (0))) ((bk_r).trans ((tx_r).trans (xo_0))) rfl 0 (by decide) (hts _ qf_X5_10) (fun _ h9 => h9) (rfl) dX5_number_85 ?_
    refine va_get (v := .int (z 6)) hx hb hts inTX0 hown hK hP (0) (bk_0) rfl 3 (by decide) (hts _ qf_X5_273) (fun _ h9 => h9) (rfl) dX5_number_88 ?_
    exact z_iret hx hb hr hlocks hP hD hK hS (rfl) (by first | rfl | (simp only [numP, minP, maxP, c1, not_true_eq_false, not_false_eq_true, and_self, and_true, true_and, and_false, false_and, or_true, true_or, or_false, false_or, if_true, if_false, ite_true, ite_false]; done) | (simp [numP, minP, maxP, c1]; done) | (simp_all [numP, minP, maxP]; done)) dX5_number_91
  · refine lv_tableIn (tgt := 92) (off := 91) hx hb dX5_number_1 (by rw [c1]; decide) (by rw [c1]; decide) (by rw [c1]; decide) (by decide) ?_
    refine lv_aload_n hx hb dX5_number_92 rfl (lv_at hl 0 rfl) ?_
    refine va_get (v := .ref (ad 0)) hx hb hts inTX5 hown hK hP (19 + (3 + (0))) ((bk_r).trans ((tx_r).trans (xo_0))) rfl 0 (by decide) (hts _ qf_X5_10) (fun _ h9 => h9) (rfl) dX5_number_93 ?_
    refine va_get (v := .int (z 7)) hx hb hts inTX0 hown hK hP (0) (bk_0) rfl 4 (by decide) (hts _ qf_X5_276) (fun _ h9 => h9) (rfl) dX5_number_96 ?_
    exact z_iret hx hb hr hlocks hP hD hK hS (rfl) (by first | rfl | (simp only [numP, minP, maxP, c1, not_true_eq_false, not_false_eq_true, and_self, and_true, true_and, and_false, false_and, or_true, true_or, or_false, false_or, if_true, if_false, ite_true, ite_false]; done) | (simp [numP, minP, maxP, c1]; done) | (simp_all [numP, minP, maxP]; done)) dX5_number_99
  · refine lv_tableIn (tgt := 100) (off := 99) hx hb dX5_number_1 (by rw [c1]; decide) (by rw [c1]; decide) (by rw [c1]; decide) (by decide) ?_
    refine lv_aload_n hx hb dX5_number_100 rfl (lv_at hl 0 rfl) ?_
    refine va_get (v := .ref (ad 0)) hx hb hts inTX5 hown hK hP (19 + (3 + (0))) ((bk_r).trans ((tx_r).trans (xo_0))) rfl 0 (by decide) (hts _ qf_X5_10) (fun _ h9 => h9) (rfl) dX5_number_101 ?_
    refine va_get (v := .int (z 8)) hx hb hts inTX0 hown hK hP (0) (bk_0) rfl 5 (by decide) (hts _ qf_X5_114) (fun _ h9 => h9) (rfl) dX5_number_104 ?_
    exact z_iret hx hb hr hlocks hP hD hK hS (rfl) (by first | rfl | (simp only [numP, minP, maxP, c1, not_true_eq_false, not_false_eq_true, and_self, and_true, true_and, and_false, false_and, or_true, true_or, or_false, false_or, if_true, if_false, ite_true, ite_false]; done) | (simp [numP, minP, maxP, c1]; done) | (simp_all [numP, minP, maxP]; done)) dX5_number_107
  · refine lv_tableIn (tgt := 108) (off := 107) hx hb dX5_number_1 (by rw [c1]; decide) (by rw [c1]; decide) (by rw [c1]; decide) (by decide) ?_
    refine lv_aload_n hx hb dX5_number_108 rfl (lv_at hl 0 rfl) ?_
    refine va_get (v := .ref (ad 0)) hx hb hts inTX5 hown hK hP (19 + (3 + (0))) ((bk_r).trans ((tx_r).trans (xo_0))) rfl 0 (by decide) (hts _ qf_X5_10) (fun _ h9 => h9) (rfl) dX5_number_109 ?_
    refine va_get (v := .int (z 9)) hx hb hts inTX0 hown hK hP (0) (bk_0) rfl 6 (by decide) (hts _ qf_X5_279) (fun _ h9 => h9) (rfl) dX5_number_112 ?_
    exact z_iret hx hb hr hlocks hP hD hK hS (rfl) (by first | rfl | (simp only [numP, minP, maxP, c1, not_true_eq_false, not_false_eq_true, and_self, and_true, true_and, and_false, false_and, or_true, true_or, or_false, false_or, if_true, if_false, ite_true, ite_false]; done) | (simp [numP, minP, maxP, c1]; done) | (simp_all [numP, minP, maxP]; done)) dX5_number_115
  · refine lv_tableIn (tgt := 116) (off := 115) hx hb dX5_number_1 (by rw [c1]; decide) (by rw [c1]; decide) (by rw [c1]; decide) (by decide) ?_
    refine lv_aload_n hx hb dX5_number_116 rfl (lv_at hl 0 rfl) ?_
    refine va_get (v := .ref (ad 0)) hx hb hts inTX5 hown hK hP (19 + (3 + (0))) ((bk_r).trans ((tx_r).trans (xo_0))) rfl 0 (by decide) (hts _ qf_X5_10) (fun _ h9 => h9) (rfl) dX5_number_117 ?_
    refine z_callV1 (rest := []) S (c_X0_sumOfCredits (n := n) (show n ≤ 8 by omega) (hz)) qm_X5_282 v_X0_sumOfCredits ⟨Nat.le_of_ble_eq_true rfl, Nat.le_of_ble_eq_true rfl⟩ rfl rfl hN hK hP hD hS hA (0) (bk_0) rfl rfl hl.1 rfl (Nat.le_of_ble_eq_true rfl) dX5_number_120 ⟨Nat.le_of_ble_eq_true rfl, Nat.le_of_ble_eq_true rfl⟩ (fun H locs hP hD hS => ?_)
    exact z_iret hx hb hr hlocks hP hD hK hS (rfl) (by first | rfl | (simp only [numP, minP, maxP, c1, not_true_eq_false, not_false_eq_true, and_self, and_true, true_and, and_false, false_and, or_true, true_or, or_false, false_or, if_true, if_false, ite_true, ite_false]; done) | (simp [numP, minP, maxP, c1]; done) | (simp_all [numP, minP, maxP]; done)) dX5_number_123
  · refine lv_tableIn (tgt := 124) (off := 123) hx hb dX5_number_1 (by rw [c1]; decide) (by rw [c1]; decide) (by rw [c1]; decide) (by decide) ?_
    refine lv_aload_n hx hb dX5_number_124 rfl (lv_at hl 0 rfl) ?_
    refine va_get (v := .ref (ad 0)) hx hb hts inTX5 hown hK hP (19 + (3 + (0))) ((bk_r).trans ((tx_r).trans (xo_0))) rfl 0 (by decide) (hts _ qf_X5_10) (fun _ h9 => h9) (rfl) dX5_number_125 ?_
    refine z_callV1 (rest := []) S (c_X0_sumOfDebts (n := n) (show n ≤ 8 by omega) (hz)) qm_X5_285 v_X0_sumOfDebts ⟨Nat.le_of_ble_eq_true rfl, Nat.le_of_ble_eq_true rfl⟩ rfl rfl hN hK hP hD hS hA (0) (bk_0) rfl rfl hl.1 rfl (Nat.le_of_ble_eq_true rfl) dX5_number_128 ⟨Nat.le_of_ble_eq_true rfl, Nat.le_of_ble_eq_true rfl⟩ (fun H locs hP hD hS => ?_)
    exact z_iret hx hb hr hlocks hP hD hK hS (rfl) (by first | rfl | (simp only [numP, minP, maxP, c1, not_true_eq_false, not_false_eq_true, and_self, and_true, true_and, and_false, false_and, or_true, true_or, or_false, false_or, if_true, if_false, ite_true, ite_false]; done) | (simp [numP, minP, maxP, c1]; done) | (simp_all [numP, minP, maxP]; done)) dX5_number_131
  · refine lv_tableIn (tgt := 132) (off := 131) hx hb dX5_number_1 (by rw [c1]; decide) (by rw [c1]; decide) (by rw [c1]; decide) (by decide) ?_
    refine lv_aload_n hx hb dX5_number_132 rfl (lv_at hl 0 rfl) ?_
    refine va_get (v := .ref (ad 0)) hx hb hts inTX5 hown hK hP (19 + (3 + (0))) ((bk_r).trans ((tx_r).trans (xo_0))) rfl 0 (by decide) (hts _ qf_X5_10) (fun _ h9 => h9) (rfl) dX5_number_133 ?_
    refine z_callV1 (rest := []) S (c_X0_sumOfLoans (n := n) (show n ≤ 8 by omega) (hz)) qm_X5_288 v_X0_sumOfLoans ⟨Nat.le_of_ble_eq_true rfl, Nat.le_of_ble_eq_true rfl⟩ rfl rfl hN hK hP hD hS hA (0) (bk_0) rfl rfl hl.1 rfl (Nat.le_of_ble_eq_true rfl) dX5_number_136 ⟨Nat.le_of_ble_eq_true rfl, Nat.le_of_ble_eq_true rfl⟩ (fun H locs hP hD hS => ?_)
    exact z_iret hx hb hr hlocks hP hD hK hS (rfl) (by first | rfl | (simp only [numP, minP, maxP, c1, not_true_eq_false, not_false_eq_true, and_self, and_true, true_and, and_false, false_and, or_true, true_or, or_false, false_or, if_true, if_false, ite_true, ite_false]; done) | (simp [numP, minP, maxP, c1]; done) | (simp_all [numP, minP, maxP]; done)) dX5_number_139
  · refine lv_tableIn (tgt := 140) (off := 139) hx hb dX5_number_1 (by rw [c1]; decide) (by rw [c1]; decide) (by rw [c1]; decide) (by decide) ?_
    refine lv_aload_n hx hb dX5_number_140 rfl (lv_at hl 0 rfl) ?_
    refine va_get (v := .ref (ad 0)) hx hb hts inTX5 hown hK hP (19 + (3 + (0))) ((bk_r).trans ((tx_r).trans (xo_0))) rfl 0 (by decide) (hts _ qf_X5_10) (fun _ h9 => h9) (rfl) dX5_number_141 ?_
    refine va_get (v := .int (z 10)) hx hb hts inTX0 hown hK hP (0) (bk_0) rfl 7 (by decide) (hts _ qf_X5_291) (fun _ h9 => h9) (rfl) dX5_number_144 ?_
    exact z_iret hx hb hr hlocks hP hD hK hS (rfl) (by first | rfl | (simp only [numP, minP, maxP, c1, not_true_eq_false, not_false_eq_true, and_self, and_true, true_and, and_false, false_and, or_true, true_or, or_false, false_or, if_true, if_false, ite_true, ite_false]; done) | (simp [numP, minP, maxP, c1]; done) | (simp_all [numP, minP, maxP]; done)) dX5_number_147
  · refine lv_tableIn (tgt := 148) (off := 147) hx hb dX5_number_1 (by rw [c1]; decide) (by rw [c1]; decide) (by rw [c1]; decide) (by decide) ?_
    refine lv_aload_n hx hb dX5_number_148 rfl (lv_at hl 0 rfl) ?_
    refine va_get (v := .ref (ad 0)) hx hb hts inTX5 hown hK hP (19 + (3 + (0))) ((bk_r).trans ((tx_r).trans (xo_0))) rfl 0 (by decide) (hts _ qf_X5_10) (fun _ h9 => h9) (rfl) dX5_number_149 ?_
    refine va_get (v := .int (z 11)) hx hb hts inTX0 hown hK hP (0) (bk_0) rfl 8 (by decide) (hts _ qf_X5_294) (fun _ h9 => h9) (rfl) dX5_number_152 ?_
    exact z_iret hx hb hr hlocks hP hD hK hS (rfl) (by first | rfl | (simp only [numP, minP, maxP, c1, not_true_eq_false, not_false_eq_true, and_self, and_true, true_and, and_false, false_and, or_true, true_or, or_false, false_or, if_true, if_false, ite_true, ite_false]; done) | (simp [numP, minP, maxP, c1]; done) | (simp_all [numP, minP, maxP]; done)) dX5_number_155
  · refine lv_tableIn (tgt := 156) (off := 155) hx hb dX5_number_1 (by rw [c1]; decide) (by rw [c1]; decide) (by rw [c1]; decide) (by decide) ?_
    refine lv_aload_n hx hb dX5_number_156 rfl (lv_at hl 0 rfl) ?_
    refine va_get (v := .ref (ad 0)) hx hb hts inTX5 hown hK hP (19 + (3 + (0))) ((bk_r).trans ((tx_r).trans (xo_0))) rfl 0 (by decide) (hts _ qf_X5_10) (fun _ h9 => h9) (rfl) dX5_number_157 ?_
    refine lv_iconst (v := 1) hx hb dX5_number_160 (by decide) ?_
    refine z_callV1 (rest := []) S (c_X0_countBallots (n := n) (show n ≤ 8 by omega) (hz) 1) qm_X5_167 v_X0_countBallots ⟨Nat.le_of_ble_eq_true rfl, Nat.le_of_ble_eq_true rfl⟩ rfl rfl hN hK hP hD hS hA (0) (bk_0) rfl rfl hl.1 rfl (Nat.le_of_ble_eq_true rfl) dX5_number_161 ⟨Nat.le_of_ble_eq_true rfl, Nat.le_of_ble_eq_true rfl⟩ (fun H locs hP hD hS => ?_)
    exact z_iret hx hb hr hlocks hP hD hK hS (rfl) (by first | rfl | (simp only [numP, minP, maxP, c1, not_true_eq_false, not_false_eq_true, and_self, and_true, true_and, and_false, false_and, or_true, true_or, or_false, false_or, if_true, if_false, ite_true, ite_false]; done) | (simp [numP, minP, maxP, c1]; done) | (simp_all [numP, minP, maxP]; done)) dX5_number_164
  · refine lv_tableIn (tgt := 165) (off := 164) hx hb dX5_number_1 (by rw [c1]; decide) (by rw [c1]; decide) (by rw [c1]; decide) (by decide) ?_
    refine lv_aload_n hx hb dX5_number_165 rfl (lv_at hl 0 rfl) ?_
    refine va_get (v := .ref (ad 0)) hx hb hts inTX5 hown hK hP (19 + (3 + (0))) ((bk_r).trans ((tx_r).trans (xo_0))) rfl 0 (by decide) (hts _ qf_X5_10) (fun _ h9 => h9) (rfl) dX5_number_166 ?_
    refine lv_iconst (v := 2) hx hb dX5_number_169 (by decide) ?_
    refine z_callV1 (rest := []) S (c_X0_countBallots (n := n) (show n ≤ 8 by omega) (hz) 2) qm_X5_167 v_X0_countBallots ⟨Nat.le_of_ble_eq_true rfl, Nat.le_of_ble_eq_true rfl⟩ rfl rfl hN hK hP hD hS hA (0) (bk_0) rfl rfl hl.1 rfl (Nat.le_of_ble_eq_true rfl) dX5_number_170 ⟨Nat.le_of_ble_eq_true rfl, Nat.le_of_ble_eq_true rfl⟩ (fun H locs hP hD hS => ?_)
    exact z_iret hx hb hr hlocks hP hD hK hS (rfl) (by first | rfl | (simp only [numP, minP, maxP, c1, not_true_eq_false, not_false_eq_true, and_self, and_true, true_and, and_false, false_and, or_true, true_or, or_false, false_or, if_true, if_false, ite_true, ite_false]; done) | (simp [numP, minP, maxP, c1]; done) | (simp_all [numP, minP, maxP]; done)) dX5_number_173
  · refine lv_tableOut (tgt := 174) hx hb dX5_number_1 c1 (by decide) ?_
    refine lv_aload_n hx hb dX5_number_174 rfl (lv_at hl 0 rfl) ?_
    refine va_get (v := .ref (h 0)) hx hb hts inTX5 hown hK hP (19 + (3 + (0))) ((bk_r).trans ((tx_r).trans (xo_0))) rfl 1 (by decide) (hts _ qf_X5_19) (fun _ h9 => h9) (rfl) dX5_number_175 ?_
    refine va_get (v := .int (nI kp)) hx hb hts inTX3 hown hK hP (19 + (3 + (1 + (0)))) ((bk_r).trans ((tx_r).trans ((xo_r).trans (hs_0)))) rfl 2 (by decide) (hts _ qf_X5_196) (fun _ h9 => h9) (rfl) dX5_number_178 ?_
    exact z_iret hx hb hr hlocks hP hD hK hS (rfl) (by first | rfl | (simp only [numP, minP, maxP, z_out12 c1, not_true_eq_false, not_false_eq_true, and_self, and_true, true_and, and_false, false_and, or_true, true_or, or_false, false_or, if_true, if_false, ite_true, ite_false]; done) | (simp [numP, minP, maxP, z_out12 c1]; done) | (simp_all [numP, minP, maxP]; done)) dX5_number_181
set_option maxHeartbeats 4000000 in
set_option maxRecDepth 100000 in
theorem c_X5_count (hfl : l.stackTraces = false) {n : Nat} (hn : n ≤ 8) (hz : z 5 = nI n) {nx kp : Nat} (xx : Int32) : zX l D (zT cI cC cM cB cJ) yX5_count cX5_count 2 (some .int) ({ frames := 6, cells := 1, slots := 6, locals := 90 } : Room) [.ref x, .int xx] (bkW cI cM ad z (txW cC t sg sz r (xoW x ad h t (hsW cB h ah (nI nx) (nI kp) (hbW cI cM ah zh wr))))) (bkW cI cM ad z (txW cC t sg sz r (xoW x ad h t (hsW cB h ah (nI nx) (nI kp) (hbW cI cM ah zh wr))))) (bkW cI cM ad z (txW cC t sg sz r (xoW x ad h t (hsW cB h ah (nI nx) (nI kp) (hbW cI cM ah zh wr))))) (some (.int (numP z n kp xx))) "java/lang/IllegalArgumentException" "" "" (kCount xx) 1 6 := by
  refine z_enterX (by decide) (Nat.le_of_ble_eq_true rfl) ?_
  intro p e s m below meth c A S hr hlocks hX hJ hN hA hK hP hD hS ls hl
  obtain ⟨hx, hb, hml, hown, hts⟩ := id S
  have hl : lv_has ls 2 [(0, .ref x), (1, .int xx)] := hl
  have hP : va_P D vwCl (bkW cI cM ad z (txW cC t sg sz r (xoW x ad h t (hsW cB h ah (nI nx) (nI kp) (hbW cI cM ah zh wr))))) s.heap := hP
  have hD : va_D A (bkW cI cM ad z (txW cC t sg sz r (xoW x ad h t (hsW cB h ah (nI nx) (nI kp) (hbW cI cM ah zh wr))))) := hD
  refine lv_iload_n hx hb dX5_count_0 rfl (lv_at hl 1 rfl) ?_
  refine lv_iconst (v := 0) hx hb dX5_count_1 (by decide) ?_
  refine lv_bipush (v := 13) hx hb dX5_count_2 (by decide) ?_
  refine z_callS1 (rest := []) S (c_X5_isWithin xx 0 13) qm_X5_100 t_X5_isWithin ⟨Nat.le_of_ble_eq_true rfl, Nat.le_of_ble_eq_true rfl⟩ rfl rfl hN hK hP hD hS hA rfl hl.1 rfl (Nat.le_of_ble_eq_true rfl) dX5_count_4 ⟨Nat.le_of_ble_eq_true rfl, Nat.le_of_ble_eq_true rfl⟩ (fun H locs hP hD hS => ?_)
  refine lv_if_ne (tgt := 20) hx hb dX5_count_7 (by decide) (fun c1 => ?_) (fun c1 => ?_)
  · have c1 := bI_1 c1
    refine lv_aload_n hx hb dX5_count_20 rfl (lv_at hl 0 rfl) ?_
    refine lv_iload_n hx hb dX5_count_21 rfl (lv_at hl 1 rfl) ?_
    refine z_callV1 (rest := []) S (c_X5_number (n := n) (show n ≤ 8 by omega) (hz) xx) qm_X5_220 v_X5_number ⟨Nat.le_of_ble_eq_true rfl, Nat.le_of_ble_eq_true rfl⟩ rfl rfl hN hK hP hD hS hA (19 + (3 + (0))) ((bk_r).trans ((tx_r).trans (xo_0))) rfl rfl hl.1 rfl (Nat.le_of_ble_eq_true rfl) dX5_count_22 ⟨Nat.le_of_ble_eq_true rfl, Nat.le_of_ble_eq_true rfl⟩ (fun H locs hP hD hS => ?_)
    refine W.widen (k := 1) (n := 6) (by decide) (by decide) ?_
    exact z_xiret hx hb hr hlocks hP hD hK hS (by first | (simp only [kCount, mP, sP, inP, cl, alwP, alwM, cvP, whP, c1, not_true_eq_false, not_false_eq_true, and_self, and_true, true_and, and_false, false_and, or_true, true_or, or_false, false_or, if_true, if_false, ite_true, ite_false]; done) | (simp [kCount, mP, sP, inP, cl, alwP, alwM, cvP, whP, c1]; done) | (simp_all [kCount, mP, sP, inP, cl, alwP, alwM, cvP, whP]; done)) (rfl) (by first | rfl | (simp only [minP, maxP, c1, not_true_eq_false, not_false_eq_true, and_self, and_true, true_and, and_false, false_and, or_true, true_or, or_false, false_or, if_true, if_false, ite_true, ite_false]; done) | (simp [minP, maxP, c1]; done) | (simp_all [minP, maxP]; done)) dX5_count_25
  · have c1 := bI_0 c1
    refine z_throw (rest := []) (cls := "java/lang/IllegalArgumentException") (text := "what is not 0 to 13") hfl S hlocks hX hJ hK hP hD hS (rfl) hl.1 (by decide) qk_X5_85 qn_IllegalArgumentException at_IAE_g (fun w h => zBadX_in.1 w (at_IAE_b w h)) at_IAE_t (by decide) (z_k0 (k := 1) (by first | (simp only [kCount, mP, sP, inP, cl, alwP, alwM, cvP, whP, c1, not_true_eq_false, not_false_eq_true, and_self, and_true, true_and, and_false, false_and, or_true, true_or, or_false, false_or, if_true, if_false, ite_true, ite_false]; done) | (simp [kCount, mP, sP, inP, cl, alwP, alwM, cvP, whP, c1]; done) | (simp_all [kCount, mP, sP, inP, cl, alwP, alwM, cvP, whP]; done)) (by decide)) (z_kE (k := 1) (by first | (simp only [kCount, mP, sP, inP, cl, alwP, alwM, cvP, whP, c1, not_true_eq_false, not_false_eq_true, and_self, and_true, true_and, and_false, false_and, or_true, true_or, or_false, false_or, if_true, if_false, ite_true, ite_false]; done) | (simp [kCount, mP, sP, inP, cl, alwP, alwM, cvP, whP, c1]; done) | (simp_all [kCount, mP, sP, inP, cl, alwP, alwM, cvP, whP]; done)) (by decide)) (by decide) (by decide) dX5_count_10 dX5_count_13 dX5_count_14 dX5_count_16 dX5_count_19 (by decide) (by decide)
set_option maxHeartbeats 4000000 in
set_option maxRecDepth 100000 in
theorem c_X5_setting (hfl : l.stackTraces = false) {nx kp : Nat} (st : Int32) : zX l D (zT cI cC cM cB cJ) yX5_setting cX5_setting 2 (some .int) ({ frames := 6, cells := 1, slots := 6, locals := 90 } : Room) [.ref x, .int st] (bkW cI cM ad z (txW cC t sg sz r (xoW x ad h t (hsW cB h ah (nI nx) (nI kp) (hbW cI cM ah zh wr))))) (bkW cI cM ad z (txW cC t sg sz r (xoW x ad h t (hsW cB h ah (nI nx) (nI kp) (hbW cI cM ah zh wr))))) (bkW cI cM ad z (txW cC t sg sz r (xoW x ad h t (hsW cB h ah (nI nx) (nI kp) (hbW cI cM ah zh wr))))) (some (.int (z (cl st)))) "java/lang/IndexOutOfBoundsException" "" "" (kSetting st) 1 6 := by
  refine z_enterX (by decide) (Nat.le_of_ble_eq_true rfl) ?_
  intro p e s m below meth c A S hr hlocks hX hJ hN hA hK hP hD hS ls hl
  obtain ⟨hx, hb, hml, hown, hts⟩ := id S
  have hl : lv_has ls 2 [(0, .ref x), (1, .int st)] := hl
  have hP : va_P D vwCl (bkW cI cM ad z (txW cC t sg sz r (xoW x ad h t (hsW cB h ah (nI nx) (nI kp) (hbW cI cM ah zh wr))))) s.heap := hP
  have hD : va_D A (bkW cI cM ad z (txW cC t sg sz r (xoW x ad h t (hsW cB h ah (nI nx) (nI kp) (hbW cI cM ah zh wr))))) := hD
  refine lv_iload_n hx hb dX5_setting_0 rfl (lv_at hl 1 rfl) ?_
  refine z_callS1 (rest := []) S (c_X5_isSetting st) qm_X5_122 t_X5_isSetting ⟨Nat.le_of_ble_eq_true rfl, Nat.le_of_ble_eq_true rfl⟩ rfl rfl hN hK hP hD hS hA rfl hl.1 rfl (Nat.le_of_ble_eq_true rfl) dX5_setting_1 ⟨Nat.le_of_ble_eq_true rfl, Nat.le_of_ble_eq_true rfl⟩ (fun H locs hP hD hS => ?_)
  refine lv_if_ne (tgt := 17) hx hb dX5_setting_4 (by decide) (fun c1 => ?_) (fun c1 => ?_)
  · have c1 := bI_1 c1
    obtain ⟨k_, hk_, rfl⟩ := skl_nat c1
    refine lv_aload_n hx hb dX5_setting_17 rfl (lv_at hl 0 rfl) ?_
    refine va_get (v := .ref (ad 0)) hx hb hts inTX5 hown hK hP (19 + (3 + (0))) ((bk_r).trans ((tx_r).trans (xo_0))) rfl 0 (by decide) (hts _ qf_X5_10) (fun _ h9 => h9) (rfl) dX5_setting_18 ?_
    refine va_get (v := .ref (ad 2)) hx hb hts inTX0 hown hK hP (0) (bk_0) rfl 1 (by decide) (hts _ qf_X5_133) (fun _ h9 => h9) (rfl) dX5_setting_21 ?_
    refine lv_iload_n hx hb dX5_setting_24 rfl (lv_at hl 1 rfl) ?_
    refine va_iald hx hb hK hP (2) 0 (bk_2) rfl (vp_in_nI (show k_ < 5 by omega) (by omega)) dX5_setting_25 ?_
    refine z_top (v2 := .int (z k_)) (congrArg Value.int ((sfn_at rfl (show k_ < 5 by omega)).trans (rfl))) ?_
    refine W.widen (k := 1) (n := 6) (by decide) (by decide) ?_
    exact z_xiret hx hb hr hlocks hP hD hK hS (by first | (simp only [kSetting, mP, sP, inP, cl, alwP, alwM, cvP, whP, c1, nI_clamp (show k_ < 2 ^ 31 by omega), not_true_eq_false, not_false_eq_true, and_self, and_true, true_and, and_false, false_and, or_true, true_or, or_false, false_or, if_true, if_false, ite_true, ite_false]; done) | (simp [kSetting, mP, sP, inP, cl, alwP, alwM, cvP, whP, c1, nI_clamp (show k_ < 2 ^ 31 by omega)]; done) | (simp_all [kSetting, mP, sP, inP, cl, alwP, alwM, cvP, whP]; done)) (rfl) (by first | rfl | (simp only [minP, maxP, c1, nI_clamp (show k_ < 2 ^ 31 by omega), not_true_eq_false, not_false_eq_true, and_self, and_true, true_and, and_false, false_and, or_true, true_or, or_false, false_or, if_true, if_false, ite_true, ite_false]; done) | (simp [minP, maxP, c1, nI_clamp (show k_ < 2 ^ 31 by omega)]; done) | (simp_all [minP, maxP]; done)) dX5_setting_26
  · have c1 := bI_0 c1
    refine z_throw (rest := []) (cls := "java/lang/IndexOutOfBoundsException") (text := "no such setting") hfl S hlocks hX hJ hK hP hD hS (rfl) hl.1 (by decide) qk_X5_53 qn_IndexOutOfBoundsException at_IOB_g (fun w h => zBadX_in.2.2 w (at_IOB_b w h)) at_IOB_t (by decide) (z_k0 (k := 1) (by first | (simp only [kSetting, mP, sP, inP, cl, alwP, alwM, cvP, whP, c1, not_true_eq_false, not_false_eq_true, and_self, and_true, true_and, and_false, false_and, or_true, true_or, or_false, false_or, if_true, if_false, ite_true, ite_false]; done) | (simp [kSetting, mP, sP, inP, cl, alwP, alwM, cvP, whP, c1]; done) | (simp_all [kSetting, mP, sP, inP, cl, alwP, alwM, cvP, whP]; done)) (by decide)) (z_kE (k := 1) (by first | (simp only [kSetting, mP, sP, inP, cl, alwP, alwM, cvP, whP, c1, not_true_eq_false, not_false_eq_true, and_self, and_true, true_and, and_false, false_and, or_true, true_or, or_false, false_or, if_true, if_false, ite_true, ite_false]; done) | (simp [kSetting, mP, sP, inP, cl, alwP, alwM, cvP, whP, c1]; done) | (simp_all [kSetting, mP, sP, inP, cl, alwP, alwM, cvP, whP]; done)) (by decide)) (by decide) (by decide) dX5_setting_7 dX5_setting_10 dX5_setting_11 dX5_setting_13 dX5_setting_16 (by decide) (by decide)
set_option maxHeartbeats 4000000 in
set_option maxRecDepth 100000 in
theorem c_X5_worth (hfl : l.stackTraces = false) {n : Nat} (hn : n ≤ 8) (hz : z 5 = nI n) {nx kp : Nat} (mb sk mn : Int32) : zX l D (zT cI cC cM cB cJ) yX5_worth cX5_worth 4 (some .int) ({ frames := 6, cells := 1, slots := 6, locals := 90 } : Room) [.ref x, .int mb, .int sk, .int mn] (bkW cI cM ad z (txW cC t sg sz r (xoW x ad h t (hsW cB h ah (nI nx) (nI kp) (hbW cI cM ah zh wr))))) (bkW cI cM ad z (txW cC t sg sz r (xoW x ad h t (hsW cB h ah (nI nx) (nI kp) (hbW cI cM ah zh wr))))) (bkW cI cM ad z (txW cC t sg sz r (xoW x ad h t (hsW cB h ah (nI nx) (nI kp) (hbW cI cM ah zh wr))))) (some (.int (valP (z (25 + 16 * cl mb + cl sk)) mn))) "java/lang/IndexOutOfBoundsException" "java/lang/IllegalArgumentException" "" (kWorth n mb sk mn) 1 6 := by
  refine z_enterX (by decide) (Nat.le_of_ble_eq_true rfl) ?_
  intro p e s m below meth c A S hr hlocks hX hJ hN hA hK hP hD hS ls hl
  obtain ⟨hx, hb, hml, hown, hts⟩ := id S
  have hl : lv_has ls 4 [(0, .ref x), (1, .int mb), (2, .int sk), (3, .int mn)] := hl
  have hP : va_P D vwCl (bkW cI cM ad z (txW cC t sg sz r (xoW x ad h t (hsW cB h ah (nI nx) (nI kp) (hbW cI cM ah zh wr))))) s.heap := hP
  have hD : va_D A (bkW cI cM ad z (txW cC t sg sz r (xoW x ad h t (hsW cB h ah (nI nx) (nI kp) (hbW cI cM ah zh wr))))) := hD
  refine lv_aload_n hx hb dX5_worth_0 rfl (lv_at hl 0 rfl) ?_
  refine va_get (v := .ref (ad 0)) hx hb hts inTX5 hown hK hP (19 + (3 + (0))) ((bk_r).trans ((tx_r).trans (xo_0))) rfl 0 (by decide) (hts _ qf_X5_10) (fun _ h9 => h9) (rfl) dX5_worth_1 ?_
  refine lv_iload_n hx hb dX5_worth_4 rfl (lv_at hl 1 rfl) ?_
  refine z_callV1 (rest := []) S (c_X0_isMember (n := n) (show n ≤ 8 by omega) (hz) mb) qm_X5_49 v_X0_isMember ⟨Nat.le_of_ble_eq_true rfl, Nat.le_of_ble_eq_true rfl⟩ rfl rfl hN hK hP hD hS hA (0) (bk_0) rfl rfl hl.1 rfl (Nat.le_of_ble_eq_true rfl) dX5_worth_5 ⟨Nat.le_of_ble_eq_true rfl, Nat.le_of_ble_eq_true rfl⟩ (fun H locs hP hD hS => ?_)
  refine lv_if_eq (tgt := 18) hx hb dX5_worth_8 (by decide) (fun c1 => ?_) (fun c1 => ?_)
  · have c1 := bI_0 c1
    refine z_throw (rest := []) (cls := "java/lang/IndexOutOfBoundsException") (text := "no such member or skill") hfl S hlocks hX hJ hK hP hD hS (rfl) hl.1 (by decide) qk_X5_53 qn_IndexOutOfBoundsException at_IOB_g (fun w h => zBadX_in.2.2 w (at_IOB_b w h)) at_IOB_t (by decide) (z_k0 (k := 1) (by first | (simp only [kWorth, mP, sP, inP, cl, alwP, alwM, cvP, whP, c1, not_true_eq_false, not_false_eq_true, and_self, and_true, true_and, and_false, false_and, or_true, true_or, or_false, false_or, if_true, if_false, ite_true, ite_false]; done) | (simp [kWorth, mP, sP, inP, cl, alwP, alwM, cvP, whP, c1]; done) | (simp_all [kWorth, mP, sP, inP, cl, alwP, alwM, cvP, whP]; done)) (by decide)) (z_kE (k := 1) (by first | (simp only [kWorth, mP, sP, inP, cl, alwP, alwM, cvP, whP, c1, not_true_eq_false, not_false_eq_true, and_self, and_true, true_and, and_false, false_and, or_true, true_or, or_false, false_or, if_true, if_false, ite_true, ite_false]; done) | (simp [kWorth, mP, sP, inP, cl, alwP, alwM, cvP, whP, c1]; done) | (simp_all [kWorth, mP, sP, inP, cl, alwP, alwM, cvP, whP]; done)) (by decide)) (by decide) (by decide) dX5_worth_18 dX5_worth_21 dX5_worth_22 dX5_worth_24 dX5_worth_27 (by decide) (by decide)
  · have c1 := bI_1 c1
    obtain ⟨j, hj, rfl⟩ := mem_nat hn c1
    refine lv_iload_n hx hb dX5_worth_11 rfl (lv_at hl 2 rfl) ?_
    refine z_callS1 (rest := []) S (c_X5_isSkill sk) qm_X5_77 t_X5_isSkill ⟨Nat.le_of_ble_eq_true rfl, Nat.le_of_ble_eq_true rfl⟩ rfl rfl hN hK hP hD hS hA rfl hl.1 rfl (Nat.le_of_ble_eq_true rfl) dX5_worth_12 ⟨Nat.le_of_ble_eq_true rfl, Nat.le_of_ble_eq_true rfl⟩ (fun H locs hP hD hS => ?_)
    refine lv_if_ne (tgt := 28) hx hb dX5_worth_15 (by decide) (fun c2 => ?_) (fun c2 => ?_)
    · have c2 := bI_1 c2
      obtain ⟨k_, hk_, rfl⟩ := skl_nat c2
      refine lv_iload_n hx hb dX5_worth_28 rfl (lv_at hl 3 rfl) ?_
      refine z_callS1 (rest := []) S (c_X5_isDealMinutes mn) qm_X5_82 t_X5_isDealMinutes ⟨Nat.le_of_ble_eq_true rfl, Nat.le_of_ble_eq_true rfl⟩ rfl rfl hN hK hP hD hS hA rfl hl.1 rfl (Nat.le_of_ble_eq_true rfl) dX5_worth_29 ⟨Nat.le_of_ble_eq_true rfl, Nat.le_of_ble_eq_true rfl⟩ (fun H locs hP hD hS => ?_)
      refine lv_if_ne (tgt := 45) hx hb dX5_worth_32 (by decide) (fun c3 => ?_) (fun c3 => ?_)
      · have c3 := bI_1 c3
        refine lv_aload_n hx hb dX5_worth_45 rfl (lv_at hl 0 rfl) ?_
        refine va_get (v := .ref (ad 0)) hx hb hts inTX5 hown hK hP (19 + (3 + (0))) ((bk_r).trans ((tx_r).trans (xo_0))) rfl 0 (by decide) (hts _ qf_X5_10) (fun _ h9 => h9) (rfl) dX5_worth_46 ?_
        refine va_get (v := .ref (ad 1)) hx hb hts inTX0 hown hK hP (0) (bk_0) rfl 0 (by decide) (hts _ qf_X5_58) (fun _ h9 => h9) (rfl) dX5_worth_49 ?_
        refine lv_iload_n hx hb dX5_worth_52 rfl (lv_at hl 1 rfl) ?_
        refine va_aldq hx hb hK hP (1) 2 (bk_1) rfl (vp_in_nI (show j < 8 by omega) (by omega)) dX5_worth_53 ?_
        refine z_top (v2 := .ref (ad (3 + j))) (z_rf rfl) ?_
        refine lv_iload_n hx hb dX5_worth_54 rfl (lv_at hl 2 rfl) ?_
        refine lv_iload_n hx hb dX5_worth_55 rfl (lv_at hl 3 rfl) ?_
        refine z_callV1 (rest := []) S (c_X4_dealValue j k_ (show j < 8 by omega) (show k_ < 5 by omega) mn) qm_X5_223 v_X4_dealValue ⟨Nat.le_of_ble_eq_true rfl, Nat.le_of_ble_eq_true rfl⟩ rfl rfl hN hK hP hD hS hA (3 + j) (bk_m (show j < 8 by omega)) rfl rfl hl.1 rfl (Nat.le_of_ble_eq_true rfl) dX5_worth_56 ⟨Nat.le_of_ble_eq_true rfl, Nat.le_of_ble_eq_true rfl⟩ (fun H locs hP hD hS => ?_)
        refine W.widen (k := 1) (n := 6) (by decide) (by decide) ?_
        exact z_xiret hx hb hr hlocks hP hD hK hS (by first | (simp only [kWorth, mP, sP, inP, cl, alwP, alwM, cvP, whP, c1, nI_clamp (show j < 2 ^ 31 by omega), c2, nI_clamp (show k_ < 2 ^ 31 by omega), c3, not_true_eq_false, not_false_eq_true, and_self, and_true, true_and, and_false, false_and, or_true, true_or, or_false, false_or, if_true, if_false, ite_true, ite_false]; done) | (simp [kWorth, mP, sP, inP, cl, alwP, alwM, cvP, whP, c1, nI_clamp (show j < 2 ^ 31 by omega), c2, nI_clamp (show k_ < 2 ^ 31 by omega), c3]; done) | (simp_all [kWorth, mP, sP, inP, cl, alwP, alwM, cvP, whP]; done)) (rfl) (by first | rfl | (simp only [minP, maxP, c1, nI_clamp (show j < 2 ^ 31 by omega), c2, nI_clamp (show k_ < 2 ^ 31 by omega), c3, not_true_eq_false, not_false_eq_true, and_self, and_true, true_and, and_false, false_and, or_true, true_or, or_false, false_or, if_true, if_false, ite_true, ite_false]; done) | (simp [minP, maxP, c1, nI_clamp (show j < 2 ^ 31 by omega), c2, nI_clamp (show k_ < 2 ^ 31 by omega), c3]; done) | (simp_all [minP, maxP]; done)) dX5_worth_59
      · have c3 := bI_0 c3
        refine z_throw (rest := []) (cls := "java/lang/IllegalArgumentException") (text := "minutes is out of range") hfl S hlocks hX hJ hK hP hD hS (rfl) hl.1 (by decide) qk_X5_85 qn_IllegalArgumentException at_IAE_g (fun w h => zBadX_in.1 w (at_IAE_b w h)) at_IAE_t (by decide) (z_k0 (k := 2) (by first | (simp only [kWorth, mP, sP, inP, cl, alwP, alwM, cvP, whP, c1, nI_clamp (show j < 2 ^ 31 by omega), c2, nI_clamp (show k_ < 2 ^ 31 by omega), c3, not_true_eq_false, not_false_eq_true, and_self, and_true, true_and, and_false, false_and, or_true, true_or, or_false, false_or, if_true, if_false, ite_true, ite_false]; done) | (simp [kWorth, mP, sP, inP, cl, alwP, alwM, cvP, whP, c1, nI_clamp (show j < 2 ^ 31 by omega), c2, nI_clamp (show k_ < 2 ^ 31 by omega), c3]; done) | (simp_all [kWorth, mP, sP, inP, cl, alwP, alwM, cvP, whP]; done)) (by decide)) (z_kE (k := 2) (by first | (simp only [kWorth, mP, sP, inP, cl, alwP, alwM, cvP, whP, c1, nI_clamp (show j < 2 ^ 31 by omega), c2, nI_clamp (show k_ < 2 ^ 31 by omega), c3, not_true_eq_false, not_false_eq_true, and_self, and_true, true_and, and_false, false_and, or_true, true_or, or_false, false_or, if_true, if_false, ite_true, ite_false]; done) | (simp [kWorth, mP, sP, inP, cl, alwP, alwM, cvP, whP, c1, nI_clamp (show j < 2 ^ 31 by omega), c2, nI_clamp (show k_ < 2 ^ 31 by omega), c3]; done) | (simp_all [kWorth, mP, sP, inP, cl, alwP, alwM, cvP, whP]; done)) (by decide)) (by decide) (by decide) dX5_worth_35 dX5_worth_38 dX5_worth_39 dX5_worth_41 dX5_worth_44 (by decide) (by decide)
    · have c2 := bI_0 c2
      refine z_throw (rest := []) (cls := "java/lang/IndexOutOfBoundsException") (text := "no such member or skill") hfl S hlocks hX hJ hK hP hD hS (rfl) hl.1 (by decide) qk_X5_53 qn_IndexOutOfBoundsException at_IOB_g (fun w h => zBadX_in.2.2 w (at_IOB_b w h)) at_IOB_t (by decide) (z_k0 (k := 1) (by first | (simp only [kWorth, mP, sP, inP, cl, alwP, alwM, cvP, whP, c1, nI_clamp (show j < 2 ^ 31 by omega), c2, not_true_eq_false, not_false_eq_true, and_self, and_true, true_and, and_false, false_and, or_true, true_or, or_false, false_or, if_true, if_false, ite_true, ite_false]; done) | (simp [kWorth, mP, sP, inP, cl, alwP, alwM, cvP, whP, c1, nI_clamp (show j < 2 ^ 31 by omega), c2]; done) | (simp_all [kWorth, mP, sP, inP, cl, alwP, alwM, cvP, whP]; done)) (by decide)) (z_kE (k := 1) (by first | (simp only [kWorth, mP, sP, inP, cl, alwP, alwM, cvP, whP, c1, nI_clamp (show j < 2 ^ 31 by omega), c2, not_true_eq_false, not_false_eq_true, and_self, and_true, true_and, and_false, false_and, or_true, true_or, or_false, false_or, if_true, if_false, ite_true, ite_false]; done) | (simp [kWorth, mP, sP, inP, cl, alwP, alwM, cvP, whP, c1, nI_clamp (show j < 2 ^ 31 by omega), c2]; done) | (simp_all [kWorth, mP, sP, inP, cl, alwP, alwM, cvP, whP]; done)) (by decide)) (by decide) (by decide) dX5_worth_18 dX5_worth_21 dX5_worth_22 dX5_worth_24 dX5_worth_27 (by decide) (by decide)
set_option maxHeartbeats 4000000 in
set_option maxRecDepth 100000 in
theorem c_X5_longest (hfl : l.stackTraces = false) {n : Nat} (hn : n ≤ 8) (hz : z 5 = nI n) {nx kp : Nat} (ga ta sk : Int32) : zX l D (zT cI cC cM cB cJ) yX5_longest cX5_longest 4 (some .int) ({ frames := 6, cells := 1, slots := 6, locals := 90 } : Room) [.ref x, .int ga, .int ta, .int sk] (bkW cI cM ad z (txW cC t sg sz r (xoW x ad h t (hsW cB h ah (nI nx) (nI kp) (hbW cI cM ah zh wr))))) (bkW cI cM ad z (txW cC t sg sz r (xoW x ad h t (hsW cB h ah (nI nx) (nI kp) (hbW cI cM ah zh wr))))) (bkW cI cM ad z (txW cC t sg sz r (xoW x ad h t (hsW cB h ah (nI nx) (nI kp) (hbW cI cM ah zh wr))))) (some (.int (lngP z (cl ga) (cl ta) (cl sk)))) "java/lang/IndexOutOfBoundsException" "" "" (kLongest n ga ta sk) 1 6 := by
  refine z_enterX (by decide) (Nat.le_of_ble_eq_true rfl) ?_
  intro p e s m below meth c A S hr hlocks hX hJ hN hA hK hP hD hS ls hl
  obtain ⟨hx, hb, hml, hown, hts⟩ := id S
  have hl : lv_has ls 4 [(0, .ref x), (1, .int ga), (2, .int ta), (3, .int sk)] := hl
  have hP : va_P D vwCl (bkW cI cM ad z (txW cC t sg sz r (xoW x ad h t (hsW cB h ah (nI nx) (nI kp) (hbW cI cM ah zh wr))))) s.heap := hP
  have hD : va_D A (bkW cI cM ad z (txW cC t sg sz r (xoW x ad h t (hsW cB h ah (nI nx) (nI kp) (hbW cI cM ah zh wr))))) := hD
  refine lv_aload_n hx hb dX5_longest_0 rfl (lv_at hl 0 rfl) ?_
  refine va_get (v := .ref (ad 0)) hx hb hts inTX5 hown hK hP (19 + (3 + (0))) ((bk_r).trans ((tx_r).trans (xo_0))) rfl 0 (by decide) (hts _ qf_X5_10) (fun _ h9 => h9) (rfl) dX5_longest_1 ?_
  refine lv_iload_n hx hb dX5_longest_4 rfl (lv_at hl 1 rfl) ?_
  refine z_callV1 (rest := []) S (c_X0_isMember (n := n) (show n ≤ 8 by omega) (hz) ga) qm_X5_49 v_X0_isMember ⟨Nat.le_of_ble_eq_true rfl, Nat.le_of_ble_eq_true rfl⟩ rfl rfl hN hK hP hD hS hA (0) (bk_0) rfl rfl hl.1 rfl (Nat.le_of_ble_eq_true rfl) dX5_longest_5 ⟨Nat.le_of_ble_eq_true rfl, Nat.le_of_ble_eq_true rfl⟩ (fun H locs hP hD hS => ?_)
  refine lv_if_eq (tgt := 29) hx hb dX5_longest_8 (by decide) (fun c1 => ?_) (fun c1 => ?_)
  · have c1 := bI_0 c1
    refine z_throw (rest := []) (cls := "java/lang/IndexOutOfBoundsException") (text := "no such member or skill") hfl S hlocks hX hJ hK hP hD hS (rfl) hl.1 (by decide) qk_X5_53 qn_IndexOutOfBoundsException at_IOB_g (fun w h => zBadX_in.2.2 w (at_IOB_b w h)) at_IOB_t (by decide) (z_k0 (k := 1) (by first | (simp only [kLongest, mP, sP, inP, cl, alwP, alwM, cvP, whP, c1, not_true_eq_false, not_false_eq_true, and_self, and_true, true_and, and_false, false_and, or_true, true_or, or_false, false_or, if_true, if_false, ite_true, ite_false]; done) | (simp [kLongest, mP, sP, inP, cl, alwP, alwM, cvP, whP, c1]; done) | (simp_all [kLongest, mP, sP, inP, cl, alwP, alwM, cvP, whP]; done)) (by decide)) (z_kE (k := 1) (by first | (simp only [kLongest, mP, sP, inP, cl, alwP, alwM, cvP, whP, c1, not_true_eq_false, not_false_eq_true, and_self, and_true, true_and, and_false, false_and, or_true, true_or, or_false, false_or, if_true, if_false, ite_true, ite_false]; done) | (simp [kLongest, mP, sP, inP, cl, alwP, alwM, cvP, whP, c1]; done) | (simp_all [kLongest, mP, sP, inP, cl, alwP, alwM, cvP, whP]; done)) (by decide)) (by decide) (by decide) dX5_longest_29 dX5_longest_32 dX5_longest_33 dX5_longest_35 dX5_longest_38 (by decide) (by decide)
  · have c1 := bI_1 c1
    obtain ⟨g_, hg_, rfl⟩ := mem_nat hn c1
    refine lv_aload_n hx hb dX5_longest_11 rfl (lv_at hl 0 rfl) ?_
    refine va_get (v := .ref (ad 0)) hx hb hts inTX5 hown hK hP (19 + (3 + (0))) ((bk_r).trans ((tx_r).trans (xo_0))) rfl 0 (by decide) (hts _ qf_X5_10) (fun _ h9 => h9) (rfl) dX5_longest_12 ?_
    refine lv_iload_n hx hb dX5_longest_15 rfl (lv_at hl 2 rfl) ?_
    refine z_callV1 (rest := []) S (c_X0_isMember (n := n) (show n ≤ 8 by omega) (hz) ta) qm_X5_49 v_X0_isMember ⟨Nat.le_of_ble_eq_true rfl, Nat.le_of_ble_eq_true rfl⟩ rfl rfl hN hK hP hD hS hA (0) (bk_0) rfl rfl hl.1 rfl (Nat.le_of_ble_eq_true rfl) dX5_longest_16 ⟨Nat.le_of_ble_eq_true rfl, Nat.le_of_ble_eq_true rfl⟩ (fun H locs hP hD hS => ?_)
    refine lv_if_eq (tgt := 29) hx hb dX5_longest_19 (by decide) (fun c2 => ?_) (fun c2 => ?_)
    · have c2 := bI_0 c2
      refine z_throw (rest := []) (cls := "java/lang/IndexOutOfBoundsException") (text := "no such member or skill") hfl S hlocks hX hJ hK hP hD hS (rfl) hl.1 (by decide) qk_X5_53 qn_IndexOutOfBoundsException at_IOB_g (fun w h => zBadX_in.2.2 w (at_IOB_b w h)) at_IOB_t (by decide) (z_k0 (k := 1) (by first | (simp only [kLongest, mP, sP, inP, cl, alwP, alwM, cvP, whP, c1, nI_clamp (show g_ < 2 ^ 31 by omega), c2, not_true_eq_false, not_false_eq_true, and_self, and_true, true_and, and_false, false_and, or_true, true_or, or_false, false_or, if_true, if_false, ite_true, ite_false]; done) | (simp [kLongest, mP, sP, inP, cl, alwP, alwM, cvP, whP, c1, nI_clamp (show g_ < 2 ^ 31 by omega), c2]; done) | (simp_all [kLongest, mP, sP, inP, cl, alwP, alwM, cvP, whP]; done)) (by decide)) (z_kE (k := 1) (by first | (simp only [kLongest, mP, sP, inP, cl, alwP, alwM, cvP, whP, c1, nI_clamp (show g_ < 2 ^ 31 by omega), c2, not_true_eq_false, not_false_eq_true, and_self, and_true, true_and, and_false, false_and, or_true, true_or, or_false, false_or, if_true, if_false, ite_true, ite_false]; done) | (simp [kLongest, mP, sP, inP, cl, alwP, alwM, cvP, whP, c1, nI_clamp (show g_ < 2 ^ 31 by omega), c2]; done) | (simp_all [kLongest, mP, sP, inP, cl, alwP, alwM, cvP, whP]; done)) (by decide)) (by decide) (by decide) dX5_longest_29 dX5_longest_32 dX5_longest_33 dX5_longest_35 dX5_longest_38 (by decide) (by decide)
    · have c2 := bI_1 c2
      obtain ⟨t_, ht_, rfl⟩ := mem_nat hn c2
      refine lv_iload_n hx hb dX5_longest_22 rfl (lv_at hl 3 rfl) ?_
      refine z_callS1 (rest := []) S (c_X5_isSkill sk) qm_X5_77 t_X5_isSkill ⟨Nat.le_of_ble_eq_true rfl, Nat.le_of_ble_eq_true rfl⟩ rfl rfl hN hK hP hD hS hA rfl hl.1 rfl (Nat.le_of_ble_eq_true rfl) dX5_longest_23 ⟨Nat.le_of_ble_eq_true rfl, Nat.le_of_ble_eq_true rfl⟩ (fun H locs hP hD hS => ?_)
      refine lv_if_ne (tgt := 39) hx hb dX5_longest_26 (by decide) (fun c3 => ?_) (fun c3 => ?_)
      · have c3 := bI_1 c3
        obtain ⟨k_, hk_, rfl⟩ := skl_nat c3
        refine lv_aload_n hx hb dX5_longest_39 rfl (lv_at hl 0 rfl) ?_
        refine va_get (v := .ref (ad 0)) hx hb hts inTX5 hown hK hP (19 + (3 + (0))) ((bk_r).trans ((tx_r).trans (xo_0))) rfl 0 (by decide) (hts _ qf_X5_10) (fun _ h9 => h9) (rfl) dX5_longest_40 ?_
        refine lv_iload_n hx hb dX5_longest_43 rfl (lv_at hl 1 rfl) ?_
        refine lv_iload_n hx hb dX5_longest_44 rfl (lv_at hl 2 rfl) ?_
        refine lv_iload_n hx hb dX5_longest_45 rfl (lv_at hl 3 rfl) ?_
        refine z_callV1 (rest := []) S (c_X0_longestDeal g_ t_ (show g_ < 8 by omega) (show t_ < 8 by omega) k_ (show k_ < 5 by omega)) qm_X5_226 v_X0_longestDeal ⟨Nat.le_of_ble_eq_true rfl, Nat.le_of_ble_eq_true rfl⟩ rfl rfl hN hK hP hD hS hA (0) (bk_0) rfl rfl hl.1 rfl (Nat.le_of_ble_eq_true rfl) dX5_longest_46 ⟨Nat.le_of_ble_eq_true rfl, Nat.le_of_ble_eq_true rfl⟩ (fun H locs hP hD hS => ?_)
        refine W.widen (k := 1) (n := 6) (by decide) (by decide) ?_
        exact z_xiret hx hb hr hlocks hP hD hK hS (by first | (simp only [kLongest, mP, sP, inP, cl, alwP, alwM, cvP, whP, c1, nI_clamp (show g_ < 2 ^ 31 by omega), c2, nI_clamp (show t_ < 2 ^ 31 by omega), c3, nI_clamp (show k_ < 2 ^ 31 by omega), not_true_eq_false, not_false_eq_true, and_self, and_true, true_and, and_false, false_and, or_true, true_or, or_false, false_or, if_true, if_false, ite_true, ite_false]; done) | (simp [kLongest, mP, sP, inP, cl, alwP, alwM, cvP, whP, c1, nI_clamp (show g_ < 2 ^ 31 by omega), c2, nI_clamp (show t_ < 2 ^ 31 by omega), c3, nI_clamp (show k_ < 2 ^ 31 by omega)]; done) | (simp_all [kLongest, mP, sP, inP, cl, alwP, alwM, cvP, whP]; done)) (rfl) (by first | rfl | (simp only [minP, maxP, c1, nI_clamp (show g_ < 2 ^ 31 by omega), c2, nI_clamp (show t_ < 2 ^ 31 by omega), c3, nI_clamp (show k_ < 2 ^ 31 by omega), not_true_eq_false, not_false_eq_true, and_self, and_true, true_and, and_false, false_and, or_true, true_or, or_false, false_or, if_true, if_false, ite_true, ite_false]; done) | (simp [minP, maxP, c1, nI_clamp (show g_ < 2 ^ 31 by omega), c2, nI_clamp (show t_ < 2 ^ 31 by omega), c3, nI_clamp (show k_ < 2 ^ 31 by omega)]; done) | (simp_all [minP, maxP]; done)) dX5_longest_49
      · have c3 := bI_0 c3
        refine z_throw (rest := []) (cls := "java/lang/IndexOutOfBoundsException") (text := "no such member or skill") hfl S hlocks hX hJ hK hP hD hS (rfl) hl.1 (by decide) qk_X5_53 qn_IndexOutOfBoundsException at_IOB_g (fun w h => zBadX_in.2.2 w (at_IOB_b w h)) at_IOB_t (by decide) (z_k0 (k := 1) (by first | (simp only [kLongest, mP, sP, inP, cl, alwP, alwM, cvP, whP, c1, nI_clamp (show g_ < 2 ^ 31 by omega), c2, nI_clamp (show t_ < 2 ^ 31 by omega), c3, not_true_eq_false, not_false_eq_true, and_self, and_true, true_and, and_false, false_and, or_true, true_or, or_false, false_or, if_true, if_false, ite_true, ite_false]; done) | (simp [kLongest, mP, sP, inP, cl, alwP, alwM, cvP, whP, c1, nI_clamp (show g_ < 2 ^ 31 by omega), c2, nI_clamp (show t_ < 2 ^ 31 by omega), c3]; done) | (simp_all [kLongest, mP, sP, inP, cl, alwP, alwM, cvP, whP]; done)) (by decide)) (z_kE (k := 1) (by first | (simp only [kLongest, mP, sP, inP, cl, alwP, alwM, cvP, whP, c1, nI_clamp (show g_ < 2 ^ 31 by omega), c2, nI_clamp (show t_ < 2 ^ 31 by omega), c3, not_true_eq_false, not_false_eq_true, and_self, and_true, true_and, and_false, false_and, or_true, true_or, or_false, false_or, if_true, if_false, ite_true, ite_false]; done) | (simp [kLongest, mP, sP, inP, cl, alwP, alwM, cvP, whP, c1, nI_clamp (show g_ < 2 ^ 31 by omega), c2, nI_clamp (show t_ < 2 ^ 31 by omega), c3]; done) | (simp_all [kLongest, mP, sP, inP, cl, alwP, alwM, cvP, whP]; done)) (by decide)) (by decide) (by decide) dX5_longest_29 dX5_longest_32 dX5_longest_33 dX5_longest_35 dX5_longest_38 (by decide) (by decide)
set_option maxHeartbeats 4000000 in
set_option maxRecDepth 100000 in
theorem c_X5_cheapest (hfl : l.stackTraces = false) {n : Nat} (hn : n ≤ 8) (hz : z 5 = nI n) {nx kp : Nat} (mb sk mn : Int32) : zX l D (zT cI cC cM cB cJ) yX5_cheapest cX5_cheapest 4 (some .int) ({ frames := 6, cells := 1, slots := 6, locals := 136 } : Room) [.ref x, .int mb, .int sk, .int mn] (bkW cI cM ad z (txW cC t sg sz r (xoW x ad h t (hsW cB h ah (nI nx) (nI kp) (hbW cI cM ah zh wr))))) (bkW cI cM ad z (txW cC t sg sz r (xoW x ad h t (hsW cB h ah (nI nx) (nI kp) (hbW cI cM ah zh wr))))) (bkW cI cM ad z (txW cC t sg sz r (xoW x ad h t (hsW cB h ah (nI nx) (nI kp) (hbW cI cM ah zh wr))))) (some (.int (chG z n (cl mb) (cl sk) mn n))) "java/lang/IndexOutOfBoundsException" "java/lang/IllegalArgumentException" "" (kWorth n mb sk mn) 1 6 := by
  refine z_enterX (by decide) (Nat.le_of_ble_eq_true rfl) ?_
  intro p e s m below meth c A S hr hlocks hX hJ hN hA hK hP hD hS ls hl
  obtain ⟨hx, hb, hml, hown, hts⟩ := id S
  have hl : lv_has ls 4 [(0, .ref x), (1, .int mb), (2, .int sk), (3, .int mn)] := hl
  have hP : va_P D vwCl (bkW cI cM ad z (txW cC t sg sz r (xoW x ad h t (hsW cB h ah (nI nx) (nI kp) (hbW cI cM ah zh wr))))) s.heap := hP
  have hD : va_D A (bkW cI cM ad z (txW cC t sg sz r (xoW x ad h t (hsW cB h ah (nI nx) (nI kp) (hbW cI cM ah zh wr))))) := hD
  refine lv_aload_n hx hb dX5_cheapest_0 rfl (lv_at hl 0 rfl) ?_
  refine va_get (v := .ref (ad 0)) hx hb hts inTX5 hown hK hP (19 + (3 + (0))) ((bk_r).trans ((tx_r).trans (xo_0))) rfl 0 (by decide) (hts _ qf_X5_10) (fun _ h9 => h9) (rfl) dX5_cheapest_1 ?_
  refine lv_iload_n hx hb dX5_cheapest_4 rfl (lv_at hl 1 rfl) ?_
  refine z_callV1 (rest := []) S (c_X0_isMember (n := n) (show n ≤ 8 by omega) (hz) mb) qm_X5_49 v_X0_isMember ⟨Nat.le_of_ble_eq_true rfl, Nat.le_of_ble_eq_true rfl⟩ rfl rfl hN hK hP hD hS hA (0) (bk_0) rfl rfl hl.1 rfl (Nat.le_of_ble_eq_true rfl) dX5_cheapest_5 ⟨Nat.le_of_ble_eq_true rfl, Nat.le_of_ble_eq_true rfl⟩ (fun H locs hP hD hS => ?_)
  refine lv_if_eq (tgt := 18) hx hb dX5_cheapest_8 (by decide) (fun c1 => ?_) (fun c1 => ?_)
  · have c1 := bI_0 c1
    refine z_throw (rest := []) (cls := "java/lang/IndexOutOfBoundsException") (text := "no such member or skill") hfl S hlocks hX hJ hK hP hD hS (rfl) hl.1 (by decide) qk_X5_53 qn_IndexOutOfBoundsException at_IOB_g (fun w h => zBadX_in.2.2 w (at_IOB_b w h)) at_IOB_t (by decide) (z_k0 (k := 1) (by first | (simp only [kWorth, mP, sP, inP, cl, alwP, alwM, cvP, whP, c1, not_true_eq_false, not_false_eq_true, and_self, and_true, true_and, and_false, false_and, or_true, true_or, or_false, false_or, if_true, if_false, ite_true, ite_false]; done) | (simp [kWorth, mP, sP, inP, cl, alwP, alwM, cvP, whP, c1]; done) | (simp_all [kWorth, mP, sP, inP, cl, alwP, alwM, cvP, whP]; done)) (by decide)) (z_kE (k := 1) (by first | (simp only [kWorth, mP, sP, inP, cl, alwP, alwM, cvP, whP, c1, not_true_eq_false, not_false_eq_true, and_self, and_true, true_and, and_false, false_and, or_true, true_or, or_false, false_or, if_true, if_false, ite_true, ite_false]; done) | (simp [kWorth, mP, sP, inP, cl, alwP, alwM, cvP, whP, c1]; done) | (simp_all [kWorth, mP, sP, inP, cl, alwP, alwM, cvP, whP]; done)) (by decide)) (by decide) (by decide) dX5_cheapest_18 dX5_cheapest_21 dX5_cheapest_22 dX5_cheapest_24 dX5_cheapest_27 (by decide) (by decide)
  · have c1 := bI_1 c1
    obtain ⟨j, hj, rfl⟩ := mem_nat hn c1
    refine lv_iload_n hx hb dX5_cheapest_11 rfl (lv_at hl 2 rfl) ?_
    refine z_callS1 (rest := []) S (c_X5_isSkill sk) qm_X5_77 t_X5_isSkill ⟨Nat.le_of_ble_eq_true rfl, Nat.le_of_ble_eq_true rfl⟩ rfl rfl hN hK hP hD hS hA rfl hl.1 rfl (Nat.le_of_ble_eq_true rfl) dX5_cheapest_12 ⟨Nat.le_of_ble_eq_true rfl, Nat.le_of_ble_eq_true rfl⟩ (fun H locs hP hD hS => ?_)
    refine lv_if_ne (tgt := 28) hx hb dX5_cheapest_15 (by decide) (fun c2 => ?_) (fun c2 => ?_)
    · have c2 := bI_1 c2
      obtain ⟨k_, hk_, rfl⟩ := skl_nat c2
      refine lv_iload_n hx hb dX5_cheapest_28 rfl (lv_at hl 3 rfl) ?_
      refine z_callS1 (rest := []) S (c_X5_isDealMinutes mn) qm_X5_82 t_X5_isDealMinutes ⟨Nat.le_of_ble_eq_true rfl, Nat.le_of_ble_eq_true rfl⟩ rfl rfl hN hK hP hD hS hA rfl hl.1 rfl (Nat.le_of_ble_eq_true rfl) dX5_cheapest_29 ⟨Nat.le_of_ble_eq_true rfl, Nat.le_of_ble_eq_true rfl⟩ (fun H locs hP hD hS => ?_)
      refine lv_if_ne (tgt := 45) hx hb dX5_cheapest_32 (by decide) (fun c3 => ?_) (fun c3 => ?_)
      · have c3 := bI_1 c3
        refine lv_aload_n hx hb dX5_cheapest_45 rfl (lv_at hl 0 rfl) ?_
        refine va_get (v := .ref (ad 0)) hx hb hts inTX5 hown hK hP (19 + (3 + (0))) ((bk_r).trans ((tx_r).trans (xo_0))) rfl 0 (by decide) (hts _ qf_X5_10) (fun _ h9 => h9) (rfl) dX5_cheapest_46 ?_
        refine lv_iload_n hx hb dX5_cheapest_49 rfl (lv_at hl 1 rfl) ?_
        refine lv_iload_n hx hb dX5_cheapest_50 rfl (lv_at hl 2 rfl) ?_
        refine lv_iload_n hx hb dX5_cheapest_51 rfl (lv_at hl 3 rfl) ?_
        refine z_callV1 (rest := []) S (c_X0_cheapestGiver (n := n) (show n ≤ 8 by omega) (hz) j k_ (show j < 8 by omega) (show k_ < 5 by omega) mn) qm_X5_230 v_X0_cheapestGiver ⟨Nat.le_of_ble_eq_true rfl, Nat.le_of_ble_eq_true rfl⟩ rfl rfl hN hK hP hD hS hA (0) (bk_0) rfl rfl hl.1 rfl (Nat.le_of_ble_eq_true rfl) dX5_cheapest_52 ⟨Nat.le_of_ble_eq_true rfl, Nat.le_of_ble_eq_true rfl⟩ (fun H locs hP hD hS => ?_)
        refine W.widen (k := 1) (n := 6) (by decide) (by decide) ?_
        exact z_xiret hx hb hr hlocks hP hD hK hS (by first | (simp only [kWorth, mP, sP, inP, cl, alwP, alwM, cvP, whP, c1, nI_clamp (show j < 2 ^ 31 by omega), c2, nI_clamp (show k_ < 2 ^ 31 by omega), c3, not_true_eq_false, not_false_eq_true, and_self, and_true, true_and, and_false, false_and, or_true, true_or, or_false, false_or, if_true, if_false, ite_true, ite_false]; done) | (simp [kWorth, mP, sP, inP, cl, alwP, alwM, cvP, whP, c1, nI_clamp (show j < 2 ^ 31 by omega), c2, nI_clamp (show k_ < 2 ^ 31 by omega), c3]; done) | (simp_all [kWorth, mP, sP, inP, cl, alwP, alwM, cvP, whP]; done)) (rfl) (by first | rfl | (simp only [minP, maxP, c1, nI_clamp (show j < 2 ^ 31 by omega), c2, nI_clamp (show k_ < 2 ^ 31 by omega), c3, not_true_eq_false, not_false_eq_true, and_self, and_true, true_and, and_false, false_and, or_true, true_or, or_false, false_or, if_true, if_false, ite_true, ite_false]; done) | (simp [minP, maxP, c1, nI_clamp (show j < 2 ^ 31 by omega), c2, nI_clamp (show k_ < 2 ^ 31 by omega), c3]; done) | (simp_all [minP, maxP]; done)) dX5_cheapest_55
      · have c3 := bI_0 c3
        refine z_throw (rest := []) (cls := "java/lang/IllegalArgumentException") (text := "minutes is out of range") hfl S hlocks hX hJ hK hP hD hS (rfl) hl.1 (by decide) qk_X5_85 qn_IllegalArgumentException at_IAE_g (fun w h => zBadX_in.1 w (at_IAE_b w h)) at_IAE_t (by decide) (z_k0 (k := 2) (by first | (simp only [kWorth, mP, sP, inP, cl, alwP, alwM, cvP, whP, c1, nI_clamp (show j < 2 ^ 31 by omega), c2, nI_clamp (show k_ < 2 ^ 31 by omega), c3, not_true_eq_false, not_false_eq_true, and_self, and_true, true_and, and_false, false_and, or_true, true_or, or_false, false_or, if_true, if_false, ite_true, ite_false]; done) | (simp [kWorth, mP, sP, inP, cl, alwP, alwM, cvP, whP, c1, nI_clamp (show j < 2 ^ 31 by omega), c2, nI_clamp (show k_ < 2 ^ 31 by omega), c3]; done) | (simp_all [kWorth, mP, sP, inP, cl, alwP, alwM, cvP, whP]; done)) (by decide)) (z_kE (k := 2) (by first | (simp only [kWorth, mP, sP, inP, cl, alwP, alwM, cvP, whP, c1, nI_clamp (show j < 2 ^ 31 by omega), c2, nI_clamp (show k_ < 2 ^ 31 by omega), c3, not_true_eq_false, not_false_eq_true, and_self, and_true, true_and, and_false, false_and, or_true, true_or, or_false, false_or, if_true, if_false, ite_true, ite_false]; done) | (simp [kWorth, mP, sP, inP, cl, alwP, alwM, cvP, whP, c1, nI_clamp (show j < 2 ^ 31 by omega), c2, nI_clamp (show k_ < 2 ^ 31 by omega), c3]; done) | (simp_all [kWorth, mP, sP, inP, cl, alwP, alwM, cvP, whP]; done)) (by decide)) (by decide) (by decide) dX5_cheapest_35 dX5_cheapest_38 dX5_cheapest_39 dX5_cheapest_41 dX5_cheapest_44 (by decide) (by decide)
    · have c2 := bI_0 c2
      refine z_throw (rest := []) (cls := "java/lang/IndexOutOfBoundsException") (text := "no such member or skill") hfl S hlocks hX hJ hK hP hD hS (rfl) hl.1 (by decide) qk_X5_53 qn_IndexOutOfBoundsException at_IOB_g (fun w h => zBadX_in.2.2 w (at_IOB_b w h)) at_IOB_t (by decide) (z_k0 (k := 1) (by first | (simp only [kWorth, mP, sP, inP, cl, alwP, alwM, cvP, whP, c1, nI_clamp (show j < 2 ^ 31 by omega), c2, not_true_eq_false, not_false_eq_true, and_self, and_true, true_and, and_false, false_and, or_true, true_or, or_false, false_or, if_true, if_false, ite_true, ite_false]; done) | (simp [kWorth, mP, sP, inP, cl, alwP, alwM, cvP, whP, c1, nI_clamp (show j < 2 ^ 31 by omega), c2]; done) | (simp_all [kWorth, mP, sP, inP, cl, alwP, alwM, cvP, whP]; done)) (by decide)) (z_kE (k := 1) (by first | (simp only [kWorth, mP, sP, inP, cl, alwP, alwM, cvP, whP, c1, nI_clamp (show j < 2 ^ 31 by omega), c2, not_true_eq_false, not_false_eq_true, and_self, and_true, true_and, and_false, false_and, or_true, true_or, or_false, false_or, if_true, if_false, ite_true, ite_false]; done) | (simp [kWorth, mP, sP, inP, cl, alwP, alwM, cvP, whP, c1, nI_clamp (show j < 2 ^ 31 by omega), c2]; done) | (simp_all [kWorth, mP, sP, inP, cl, alwP, alwM, cvP, whP]; done)) (by decide)) (by decide) (by decide) dX5_cheapest_18 dX5_cheapest_21 dX5_cheapest_22 dX5_cheapest_24 dX5_cheapest_27 (by decide) (by decide)
set_option maxHeartbeats 4000000 in
set_option maxRecDepth 100000 in
theorem c_X5_decayIn (hfl : l.stackTraces = false) {n : Nat} (hn : n ≤ 8) (hz : z 5 = nI n) {nx kp : Nat} (mb wk : Int32) : zX l D (zT cI cC cM cB cJ) yX5_decayIn cX5_decayIn 3 (some .int) ({ frames := 6, cells := 1, slots := 6, locals := 90 } : Room) [.ref x, .int mb, .int wk] (bkW cI cM ad z (txW cC t sg sz r (xoW x ad h t (hsW cB h ah (nI nx) (nI kp) (hbW cI cM ah zh wr))))) (bkW cI cM ad z (txW cC t sg sz r (xoW x ad h t (hsW cB h ah (nI nx) (nI kp) (hbW cI cM ah zh wr))))) (bkW cI cM ad z (txW cC t sg sz r (xoW x ad h t (hsW cB h ah (nI nx) (nI kp) (hbW cI cM ah zh wr))))) (some (.int (fdP z (cl mb) (cl wk)))) "java/lang/IndexOutOfBoundsException" "java/lang/IllegalArgumentException" "" (kDecay n mb wk) 1 6 := by
  refine z_enterX (by decide) (Nat.le_of_ble_eq_true rfl) ?_
  intro p e s m below meth c A S hr hlocks hX hJ hN hA hK hP hD hS ls hl
  obtain ⟨hx, hb, hml, hown, hts⟩ := id S
  have hl : lv_has ls 3 [(0, .ref x), (1, .int mb), (2, .int wk)] := hl
  have hP : va_P D vwCl (bkW cI cM ad z (txW cC t sg sz r (xoW x ad h t (hsW cB h ah (nI nx) (nI kp) (hbW cI cM ah zh wr))))) s.heap := hP
  have hD : va_D A (bkW cI cM ad z (txW cC t sg sz r (xoW x ad h t (hsW cB h ah (nI nx) (nI kp) (hbW cI cM ah zh wr))))) := hD
  refine lv_aload_n hx hb dX5_decayIn_0 rfl (lv_at hl 0 rfl) ?_
  refine va_get (v := .ref (ad 0)) hx hb hts inTX5 hown hK hP (19 + (3 + (0))) ((bk_r).trans ((tx_r).trans (xo_0))) rfl 0 (by decide) (hts _ qf_X5_10) (fun _ h9 => h9) (rfl) dX5_decayIn_1 ?_
  refine lv_iload_n hx hb dX5_decayIn_4 rfl (lv_at hl 1 rfl) ?_
  refine z_callV1 (rest := []) S (c_X0_isMember (n := n) (show n ≤ 8 by omega) (hz) mb) qm_X5_49 v_X0_isMember ⟨Nat.le_of_ble_eq_true rfl, Nat.le_of_ble_eq_true rfl⟩ rfl rfl hN hK hP hD hS hA (0) (bk_0) rfl rfl hl.1 rfl (Nat.le_of_ble_eq_true rfl) dX5_decayIn_5 ⟨Nat.le_of_ble_eq_true rfl, Nat.le_of_ble_eq_true rfl⟩ (fun H locs hP hD hS => ?_)
  refine lv_if_ne (tgt := 21) hx hb dX5_decayIn_8 (by decide) (fun c1 => ?_) (fun c1 => ?_)
  · have c1 := bI_1 c1
    obtain ⟨j, hj, rfl⟩ := mem_nat hn c1
    refine lv_iload_n hx hb dX5_decayIn_21 rfl (lv_at hl 2 rfl) ?_
    refine lv_iconst (v := 0) hx hb dX5_decayIn_22 (by decide) ?_
    refine lv_bipush (v := 100) hx hb dX5_decayIn_23 (by decide) ?_
    refine z_callS1 (rest := []) S (c_X5_isWithin wk 0 100) qm_X5_100 t_X5_isWithin ⟨Nat.le_of_ble_eq_true rfl, Nat.le_of_ble_eq_true rfl⟩ rfl rfl hN hK hP hD hS hA rfl hl.1 rfl (Nat.le_of_ble_eq_true rfl) dX5_decayIn_25 ⟨Nat.le_of_ble_eq_true rfl, Nat.le_of_ble_eq_true rfl⟩ (fun H locs hP hD hS => ?_)
    refine lv_if_ne (tgt := 41) hx hb dX5_decayIn_28 (by decide) (fun c2 => ?_) (fun c2 => ?_)
    · have c2 := bI_1 c2
      obtain ⟨v_, hv_, rfl⟩ := w100_nat c2
      refine lv_aload_n hx hb dX5_decayIn_41 rfl (lv_at hl 0 rfl) ?_
      refine va_get (v := .ref (ad 0)) hx hb hts inTX5 hown hK hP (19 + (3 + (0))) ((bk_r).trans ((tx_r).trans (xo_0))) rfl 0 (by decide) (hts _ qf_X5_10) (fun _ h9 => h9) (rfl) dX5_decayIn_42 ?_
      refine lv_iload_n hx hb dX5_decayIn_45 rfl (lv_at hl 1 rfl) ?_
      refine lv_iload_n hx hb dX5_decayIn_46 rfl (lv_at hl 2 rfl) ?_
      refine z_callV1 (rest := []) S (c_X0_foreseenDecay j v_ (show j < 8 by omega) (show v_ < 1000 by omega)) qm_X5_233 v_X0_foreseenDecay ⟨Nat.le_of_ble_eq_true rfl, Nat.le_of_ble_eq_true rfl⟩ rfl rfl hN hK hP hD hS hA (0) (bk_0) rfl rfl hl.1 rfl (Nat.le_of_ble_eq_true rfl) dX5_decayIn_47 ⟨Nat.le_of_ble_eq_true rfl, Nat.le_of_ble_eq_true rfl⟩ (fun H locs hP hD hS => ?_)
      refine W.widen (k := 1) (n := 6) (by decide) (by decide) ?_
      exact z_xiret hx hb hr hlocks hP hD hK hS (by first | (simp only [kDecay, mP, sP, inP, cl, alwP, alwM, cvP, whP, c1, nI_clamp (show j < 2 ^ 31 by omega), c2, nI_clamp (show v_ < 2 ^ 31 by omega), not_true_eq_false, not_false_eq_true, and_self, and_true, true_and, and_false, false_and, or_true, true_or, or_false, false_or, if_true, if_false, ite_true, ite_false]; done) | (simp [kDecay, mP, sP, inP, cl, alwP, alwM, cvP, whP, c1, nI_clamp (show j < 2 ^ 31 by omega), c2, nI_clamp (show v_ < 2 ^ 31 by omega)]; done) | (simp_all [kDecay, mP, sP, inP, cl, alwP, alwM, cvP, whP]; done)) (rfl) (by first | rfl | (simp only [minP, maxP, c1, nI_clamp (show j < 2 ^ 31 by omega), c2, nI_clamp (show v_ < 2 ^ 31 by omega), not_true_eq_false, not_false_eq_true, and_self, and_true, true_and, and_false, false_and, or_true, true_or, or_false, false_or, if_true, if_false, ite_true, ite_false]; done) | (simp [minP, maxP, c1, nI_clamp (show j < 2 ^ 31 by omega), c2, nI_clamp (show v_ < 2 ^ 31 by omega)]; done) | (simp_all [minP, maxP]; done)) dX5_decayIn_50
    · have c2 := bI_0 c2
      refine z_throw (rest := []) (cls := "java/lang/IllegalArgumentException") (text := "weeks is out of range") hfl S hlocks hX hJ hK hP hD hS (rfl) hl.1 (by decide) qk_X5_85 qn_IllegalArgumentException at_IAE_g (fun w h => zBadX_in.1 w (at_IAE_b w h)) at_IAE_t (by decide) (z_k0 (k := 2) (by first | (simp only [kDecay, mP, sP, inP, cl, alwP, alwM, cvP, whP, c1, nI_clamp (show j < 2 ^ 31 by omega), c2, not_true_eq_false, not_false_eq_true, and_self, and_true, true_and, and_false, false_and, or_true, true_or, or_false, false_or, if_true, if_false, ite_true, ite_false]; done) | (simp [kDecay, mP, sP, inP, cl, alwP, alwM, cvP, whP, c1, nI_clamp (show j < 2 ^ 31 by omega), c2]; done) | (simp_all [kDecay, mP, sP, inP, cl, alwP, alwM, cvP, whP]; done)) (by decide)) (z_kE (k := 2) (by first | (simp only [kDecay, mP, sP, inP, cl, alwP, alwM, cvP, whP, c1, nI_clamp (show j < 2 ^ 31 by omega), c2, not_true_eq_false, not_false_eq_true, and_self, and_true, true_and, and_false, false_and, or_true, true_or, or_false, false_or, if_true, if_false, ite_true, ite_false]; done) | (simp [kDecay, mP, sP, inP, cl, alwP, alwM, cvP, whP, c1, nI_clamp (show j < 2 ^ 31 by omega), c2]; done) | (simp_all [kDecay, mP, sP, inP, cl, alwP, alwM, cvP, whP]; done)) (by decide)) (by decide) (by decide) dX5_decayIn_31 dX5_decayIn_34 dX5_decayIn_35 dX5_decayIn_37 dX5_decayIn_40 (by decide) (by decide)
  · have c1 := bI_0 c1
    refine z_throw (rest := []) (cls := "java/lang/IndexOutOfBoundsException") (text := "no such member") hfl S hlocks hX hJ hK hP hD hS (rfl) hl.1 (by decide) qk_X5_53 qn_IndexOutOfBoundsException at_IOB_g (fun w h => zBadX_in.2.2 w (at_IOB_b w h)) at_IOB_t (by decide) (z_k0 (k := 1) (by first | (simp only [kDecay, mP, sP, inP, cl, alwP, alwM, cvP, whP, c1, not_true_eq_false, not_false_eq_true, and_self, and_true, true_and, and_false, false_and, or_true, true_or, or_false, false_or, if_true, if_false, ite_true, ite_false]; done) | (simp [kDecay, mP, sP, inP, cl, alwP, alwM, cvP, whP, c1]; done) | (simp_all [kDecay, mP, sP, inP, cl, alwP, alwM, cvP, whP]; done)) (by decide)) (z_kE (k := 1) (by first | (simp only [kDecay, mP, sP, inP, cl, alwP, alwM, cvP, whP, c1, not_true_eq_false, not_false_eq_true, and_self, and_true, true_and, and_false, false_and, or_true, true_or, or_false, false_or, if_true, if_false, ite_true, ite_false]; done) | (simp [kDecay, mP, sP, inP, cl, alwP, alwM, cvP, whP, c1]; done) | (simp_all [kDecay, mP, sP, inP, cl, alwP, alwM, cvP, whP]; done)) (by decide)) (by decide) (by decide) dX5_decayIn_11 dX5_decayIn_14 dX5_decayIn_15 dX5_decayIn_17 dX5_decayIn_20 (by decide) (by decide)
set_option maxHeartbeats 4000000 in
set_option maxRecDepth 100000 in
theorem c_X5_votesNeeded {n : Nat} (hn : n ≤ 8) (hz : z 5 = nI n) {nx kp : Nat} : zM l D (zT cI cC cM cB cJ) yX5_votesNeeded cX5_votesNeeded 1 (some .int) ({ frames := 3, cells := 0, slots := 0, locals := 62 } : Room) [.ref x] (bkW cI cM ad z (txW cC t sg sz r (xoW x ad h t (hsW cB h ah (nI nx) (nI kp) (hbW cI cM ah zh wr))))) (bkW cI cM ad z (txW cC t sg sz r (xoW x ad h t (hsW cB h ah (nI nx) (nI kp) (hbW cI cM ah zh wr))))) (some (.int (misP z n))) 0 0 := by
  refine z_enter (by decide) (Nat.le_of_ble_eq_true rfl) ?_
  intro p e s m below meth c A S hr hlocks hnm hN hA hK hP hD hS ls hl
  obtain ⟨hx, hb, hml, hown, hts⟩ := id S
  have hl : lv_has ls 1 [(0, .ref x)] := hl
  have hP : va_P D vwCl (bkW cI cM ad z (txW cC t sg sz r (xoW x ad h t (hsW cB h ah (nI nx) (nI kp) (hbW cI cM ah zh wr))))) s.heap := hP
  have hD : va_D A (bkW cI cM ad z (txW cC t sg sz r (xoW x ad h t (hsW cB h ah (nI nx) (nI kp) (hbW cI cM ah zh wr))))) := hD
  refine lv_aload_n hx hb dX5_votesNeeded_0 rfl (lv_at hl 0 rfl) ?_
  refine va_get (v := .ref (ad 0)) hx hb hts inTX5 hown hK hP (19 + (3 + (0))) ((bk_r).trans ((tx_r).trans (xo_0))) rfl 0 (by decide) (hts _ qf_X5_10) (fun _ h9 => h9) (rfl) dX5_votesNeeded_1 ?_
  refine z_callV1 (rest := []) S (c_X0_missingVotes (n := n) (show n ≤ 8 by omega) (hz)) qm_X5_236 v_X0_missingVotes ⟨Nat.le_of_ble_eq_true rfl, Nat.le_of_ble_eq_true rfl⟩ rfl rfl hN hK hP hD hS hA (0) (bk_0) rfl rfl hl.1 rfl (Nat.le_of_ble_eq_true rfl) dX5_votesNeeded_4 ⟨Nat.le_of_ble_eq_true rfl, Nat.le_of_ble_eq_true rfl⟩ (fun H locs hP hD hS => ?_)
  exact z_iret hx hb hr hlocks hP hD hK hS (rfl) (by first | rfl | (simp only [minP, maxP, not_true_eq_false, not_false_eq_true, and_self, and_true, true_and, and_false, false_and, or_true, true_or, or_false, false_or, if_true, if_false, ite_true, ite_false]; done) | (simp [minP, maxP]; done) | (simp_all [minP, maxP]; done)) dX5_votesNeeded_7
set_option maxHeartbeats 4000000 in
set_option maxRecDepth 100000 in
theorem c_X5_ripest (hfl : l.stackTraces = false) {n : Nat} (hn : n ≤ 8) (hz : z 5 = nI n) {nx kp : Nat} (sk : Int32) : zX l D (zT cI cC cM cB cJ) yX5_ripest cX5_ripest 2 (some .int) ({ frames := 6, cells := 1, slots := 6, locals := 90 } : Room) [.ref x, .int sk] (bkW cI cM ad z (txW cC t sg sz r (xoW x ad h t (hsW cB h ah (nI nx) (nI kp) (hbW cI cM ah zh wr))))) (bkW cI cM ad z (txW cC t sg sz r (xoW x ad h t (hsW cB h ah (nI nx) (nI kp) (hbW cI cM ah zh wr))))) (bkW cI cM ad z (txW cC t sg sz r (xoW x ad h t (hsW cB h ah (nI nx) (nI kp) (hbW cI cM ah zh wr))))) (some (.int (mpP z (cl sk) n))) "java/lang/IndexOutOfBoundsException" "" "" (kRipest sk) 1 6 := by
  refine z_enterX (by decide) (Nat.le_of_ble_eq_true rfl) ?_
  intro p e s m below meth c A S hr hlocks hX hJ hN hA hK hP hD hS ls hl
  obtain ⟨hx, hb, hml, hown, hts⟩ := id S
  have hl : lv_has ls 2 [(0, .ref x), (1, .int sk)] := hl
  have hP : va_P D vwCl (bkW cI cM ad z (txW cC t sg sz r (xoW x ad h t (hsW cB h ah (nI nx) (nI kp) (hbW cI cM ah zh wr))))) s.heap := hP
  have hD : va_D A (bkW cI cM ad z (txW cC t sg sz r (xoW x ad h t (hsW cB h ah (nI nx) (nI kp) (hbW cI cM ah zh wr))))) := hD
  refine lv_iload_n hx hb dX5_ripest_0 rfl (lv_at hl 1 rfl) ?_
  refine z_callS1 (rest := []) S (c_X5_isSkill sk) qm_X5_77 t_X5_isSkill ⟨Nat.le_of_ble_eq_true rfl, Nat.le_of_ble_eq_true rfl⟩ rfl rfl hN hK hP hD hS hA rfl hl.1 rfl (Nat.le_of_ble_eq_true rfl) dX5_ripest_1 ⟨Nat.le_of_ble_eq_true rfl, Nat.le_of_ble_eq_true rfl⟩ (fun H locs hP hD hS => ?_)
  refine lv_if_ne (tgt := 17) hx hb dX5_ripest_4 (by decide) (fun c1 => ?_) (fun c1 => ?_)
  · have c1 := bI_1 c1
    obtain ⟨k_, hk_, rfl⟩ := skl_nat c1
    refine lv_aload_n hx hb dX5_ripest_17 rfl (lv_at hl 0 rfl) ?_
    refine va_get (v := .ref (ad 0)) hx hb hts inTX5 hown hK hP (19 + (3 + (0))) ((bk_r).trans ((tx_r).trans (xo_0))) rfl 0 (by decide) (hts _ qf_X5_10) (fun _ h9 => h9) (rfl) dX5_ripest_18 ?_
    refine lv_iload_n hx hb dX5_ripest_21 rfl (lv_at hl 1 rfl) ?_
    refine z_callV1 (rest := []) S (c_X0_mostPractised (n := n) (show n ≤ 8 by omega) (hz) k_ (show k_ < 5 by omega)) qm_X5_241 v_X0_mostPractised ⟨Nat.le_of_ble_eq_true rfl, Nat.le_of_ble_eq_true rfl⟩ rfl rfl hN hK hP hD hS hA (0) (bk_0) rfl rfl hl.1 rfl (Nat.le_of_ble_eq_true rfl) dX5_ripest_22 ⟨Nat.le_of_ble_eq_true rfl, Nat.le_of_ble_eq_true rfl⟩ (fun H locs hP hD hS => ?_)
    refine W.widen (k := 1) (n := 6) (by decide) (by decide) ?_
    exact z_xiret hx hb hr hlocks hP hD hK hS (by first | (simp only [kRipest, mP, sP, inP, cl, alwP, alwM, cvP, whP, c1, nI_clamp (show k_ < 2 ^ 31 by omega), not_true_eq_false, not_false_eq_true, and_self, and_true, true_and, and_false, false_and, or_true, true_or, or_false, false_or, if_true, if_false, ite_true, ite_false]; done) | (simp [kRipest, mP, sP, inP, cl, alwP, alwM, cvP, whP, c1, nI_clamp (show k_ < 2 ^ 31 by omega)]; done) | (simp_all [kRipest, mP, sP, inP, cl, alwP, alwM, cvP, whP]; done)) (rfl) (by first | rfl | (simp only [minP, maxP, c1, nI_clamp (show k_ < 2 ^ 31 by omega), not_true_eq_false, not_false_eq_true, and_self, and_true, true_and, and_false, false_and, or_true, true_or, or_false, false_or, if_true, if_false, ite_true, ite_false]; done) | (simp [minP, maxP, c1, nI_clamp (show k_ < 2 ^ 31 by omega)]; done) | (simp_all [minP, maxP]; done)) dX5_ripest_25
  · have c1 := bI_0 c1
    refine z_throw (rest := []) (cls := "java/lang/IndexOutOfBoundsException") (text := "no such skill") hfl S hlocks hX hJ hK hP hD hS (rfl) hl.1 (by decide) qk_X5_53 qn_IndexOutOfBoundsException at_IOB_g (fun w h => zBadX_in.2.2 w (at_IOB_b w h)) at_IOB_t (by decide) (z_k0 (k := 1) (by first | (simp only [kRipest, mP, sP, inP, cl, alwP, alwM, cvP, whP, c1, not_true_eq_false, not_false_eq_true, and_self, and_true, true_and, and_false, false_and, or_true, true_or, or_false, false_or, if_true, if_false, ite_true, ite_false]; done) | (simp [kRipest, mP, sP, inP, cl, alwP, alwM, cvP, whP, c1]; done) | (simp_all [kRipest, mP, sP, inP, cl, alwP, alwM, cvP, whP]; done)) (by decide)) (z_kE (k := 1) (by first | (simp only [kRipest, mP, sP, inP, cl, alwP, alwM, cvP, whP, c1, not_true_eq_false, not_false_eq_true, and_self, and_true, true_and, and_false, false_and, or_true, true_or, or_false, false_or, if_true, if_false, ite_true, ite_false]; done) | (simp [kRipest, mP, sP, inP, cl, alwP, alwM, cvP, whP, c1]; done) | (simp_all [kRipest, mP, sP, inP, cl, alwP, alwM, cvP, whP]; done)) (by decide)) (by decide) (by decide) dX5_ripest_7 dX5_ripest_10 dX5_ripest_11 dX5_ripest_13 dX5_ripest_16 (by decide) (by decide)
set_option maxHeartbeats 4000000 in
set_option maxRecDepth 100000 in
theorem c_X5_minuteWorth {n : Nat} (hn : n ≤ 8) (hz : z 5 = nI n) {nx kp : Nat} : zM l D (zT cI cC cM cB cJ) yX5_minuteWorth cX5_minuteWorth 1 (some .double) ({ frames := 1, cells := 0, slots := 0, locals := 23 } : Room) [.ref x] (bkW cI cM ad z (txW cC t sg sz r (xoW x ad h t (hsW cB h ah (nI nx) (nI kp) (hbW cI cM ah zh wr))))) (bkW cI cM ad z (txW cC t sg sz r (xoW x ad h t (hsW cB h ah (nI nx) (nI kp) (hbW cI cM ah zh wr))))) (some (.double (vomP z n))) 0 0 := by
  refine z_enter (by decide) (Nat.le_of_ble_eq_true rfl) ?_
  intro p e s m below meth c A S hr hlocks hnm hN hA hK hP hD hS ls hl
  obtain ⟨hx, hb, hml, hown, hts⟩ := id S
  have hl : lv_has ls 1 [(0, .ref x)] := hl
  have hP : va_P D vwCl (bkW cI cM ad z (txW cC t sg sz r (xoW x ad h t (hsW cB h ah (nI nx) (nI kp) (hbW cI cM ah zh wr))))) s.heap := hP
  have hD : va_D A (bkW cI cM ad z (txW cC t sg sz r (xoW x ad h t (hsW cB h ah (nI nx) (nI kp) (hbW cI cM ah zh wr))))) := hD
  refine lv_aload_n hx hb dX5_minuteWorth_0 rfl (lv_at hl 0 rfl) ?_
  refine va_get (v := .ref (ad 0)) hx hb hts inTX5 hown hK hP (19 + (3 + (0))) ((bk_r).trans ((tx_r).trans (xo_0))) rfl 0 (by decide) (hts _ qf_X5_10) (fun _ h9 => h9) (rfl) dX5_minuteWorth_1 ?_
  refine z_callV1 (rest := []) S (c_X0_valueOfMinute (n := n) (show n ≤ 8 by omega) (hz)) qm_X5_244 v_X0_valueOfMinute ⟨Nat.le_of_ble_eq_true rfl, Nat.le_of_ble_eq_true rfl⟩ rfl rfl hN hK hP hD hS hA (0) (bk_0) rfl rfl hl.1 rfl (Nat.le_of_ble_eq_true rfl) dX5_minuteWorth_4 ⟨Nat.le_of_ble_eq_true rfl, Nat.le_of_ble_eq_true rfl⟩ (fun H locs hP hD hS => ?_)
  exact z_dret hx hb hr hlocks hP hD hK hS (rfl) (by first | rfl | (simp only [minP, maxP, not_true_eq_false, not_false_eq_true, and_self, and_true, true_and, and_false, false_and, or_true, true_or, or_false, false_or, if_true, if_false, ite_true, ite_false]; done) | (simp [minP, maxP]; done) | (simp_all [minP, maxP]; done)) dX5_minuteWorth_7
end XB

