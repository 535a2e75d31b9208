def admZ (z : Nat → Int32) (n : Nat) : Nat → Int32 := upd (upd (upd (upd (upd z 5 (nI (n + 1))) (14 + 16 * n) 1) (14 + 16 * n + 1) (z 1)) (14 + 16 * n + 2) (z 1)) 6 (z 6 - z 1)
def forgZ (z : Nat → Int32) (n d : Nat) : Nat → Int32 := dropZ (upd (upd (upd z (14 + 16 * d + 1) (z (14 + 16 * d + 1) + z 11)) (14 + 16 * d + 10) (z (14 + 16 * d + 10) + z 11)) 7 (z 7 + z 11)) n
def setR (z : Nat → Int32) (n : Nat) : Int32 := if cntT z n - 1 < cntB z 1 n * 2 then 1 else if 0 < cntT z n - 1 then (if cntB z 2 n * 2 < cntT z n - 1 then 0 else 2) else 0
def setZ (z : Nat → Int32) (n d : Nat) : Nat → Int32 := if cntT z n - 1 < cntB z 1 n * 2 then forgZ z n d else if 0 < cntT z n - 1 then (if cntB z 2 n * 2 < cntT z n - 1 then z else dropZ z n) else z
def outZ (z : Nat → Int32) (j : Nat) : Nat → Int32 := upd (upd (upd (upd (upd z (14 + 16 * j + 1) (z (14 + 16 * j + 1) - z (14 + 16 * j + 1))) 6 (z 6 + z (14 + 16 * j + 1))) (14 + 16 * j + 2) 0) (14 + 16 * j) 0) (142 + j) 0
def disZ (z : Nat → Int32) (n j d : Nat) : Nat → Int32 := if nI d = nI j then dropZ (outZ z j) n else setZ (outZ z j) n d
def chG (z : Nat → Int32) (n t k : Nat) (mn : Int32) : Nat → Int32
  | 0 => -1
  | i + 1 => if ¬ (nI i = nI t) ∧ alwP z n i t k mn ∧ (chG z n t k mn i = -1 ∨ chpP z i (chG z n t k mn i).toNatClampNeg k mn) then nI i else chG z n t k mn i
theorem chG_nat {z : Nat → Int32} {n t k : Nat} {mn : Int32} : ∀ {i : Nat}, i ≤ 8 → ¬ chG z n t k mn i = -1 → ∃ b : Nat, b < 8 ∧ chG z n t k mn i = nI b
  | 0, _, h => absurd rfl h
  | i + 1, hi, h => by
    rw [chG] at h ⊢
    split at h
    · rename_i q
      rw [if_pos q]; exact ⟨i, by omega, rfl⟩
    · rename_i q
      rw [if_neg q]; exact chG_nat (by omega) h
theorem nI_cl8 {b : Nat} (h : b < 8) : (nI b).toNatClampNeg = b := nI_clamp (by omega)
def rustZ (z : Nat → Int32) (j : Nat) (r : Int32) : Nat → Nat → Int32
  | 0 => z
  | k + 1 => upd (rustZ z j r k) (25 + 16 * j + k) (maxP (z (25 + 16 * j + k) - r) 0)
theorem rustZ_at {z : Nat → Int32} {j : Nat} {r : Int32} (k : Nat) {q : Nat} (h : ¬ (25 + 16 * j ≤ q ∧ q < 25 + 16 * j + k)) : rustZ z j r k q = z q := by
  induction k with
  | zero => rfl
  | succ k ih => exact (upd_ne (by omega)).trans (ih (by omega))
def idlP (z : Nat → Int32) (j : Nat) : Int32 := if z (14 + 16 * j + 4) = 0 then z (14 + 16 * j + 3) + 1 else 0
def ewZ (z : Nat → Int32) (j : Nat) : Nat → Int32 :=
  if z 2 < idlP z j then rustZ (upd (upd (upd (upd (upd z (14 + 16 * j + 3) (idlP z j)) (14 + 16 * j + 4) 0) (14 + 16 * j + 9) (z (14 + 16 * j + 9) + decP (z (14 + 16 * j + 1)) (z 3))) (14 + 16 * j + 1) (z (14 + 16 * j + 1) - decP (z (14 + 16 * j + 1)) (z 3))) 6 (z 6 + decP (z (14 + 16 * j + 1)) (z 3))) j (z 4) 5
  else upd (upd z (14 + 16 * j + 3) (idlP z j)) (14 + 16 * j + 4) 0
def ewR (z : Nat → Int32) (j : Nat) : Int32 := if z 2 < idlP z j then decP (z (14 + 16 * j + 1)) (z 3) else 0
theorem ewZ_at {z : Nat → Int32} {j q : Nat} (h : q < 14) (h6 : q ≠ 6) : ewZ z j q = z q := by
  rw [ewZ]
  split
  · rw [rustZ_at 5 (by omega), upd_ne (by omega), upd_ne (by omega), upd_ne (by omega), upd_ne (by omega), upd_ne (by omega)]
  · rw [upd_ne (by omega), upd_ne (by omega)]
def ewkZ (z : Nat → Int32) : Nat → Nat → Int32
  | 0 => z
  | i + 1 => if ewkZ z i (14 + 16 * i) = 0 then ewkZ z i else ewZ (ewkZ z i) i
def ewkR (z : Nat → Int32) : Nat → Int32
  | 0 => 0
  | i + 1 => if ewkZ z i (14 + 16 * i) = 0 then ewkR z i else ewkR z i + ewR (ewkZ z i) i
theorem ewkZ_at {z : Nat → Int32} (i : Nat) {q : Nat} (h : q < 14) (h6 : q ≠ 6) : ewkZ z i q = z q := by
  induction i with
  | zero => rfl
  | succ i ih =>
    rw [ewkZ]
    split
    · exact ih
    · exact (ewZ_at h h6).trans ih
def wkZ (z : Nat → Int32) (n : Nat) : Nat → Int32 := ewkZ (upd z 8 (z 8 + 1)) n
def wkR (z : Nat → Int32) (n : Nat) : Int32 := ewkR (upd z 8 (z 8 + 1)) n
def fdI (a : Int32) : Nat → Int32
  | 0 => a
  | i + 1 => fdI a i + 1
def fdR (z : Nat → Int32) (b a : Int32) : Nat → Int32
  | 0 => b
  | i + 1 => if z 2 < fdI a i + 1 then fdR z b a i - decP (fdR z b a i) (z 3) else fdR z b a i
def fdP (z : Nat → Int32) (j wk : Nat) : Int32 := if z (14 + 16 * j) = 0 then 0 else z (14 + 16 * j + 1) - fdR z (z (14 + 16 * j + 1)) (if z (14 + 16 * j + 4) = 0 then z (14 + 16 * j + 3) else -1) wk
def prpP (z : Nat → Int32) (j : Nat) (x : Int32) : Int32 := if x = 0 then (if z (14 + 16 * j) = 0 then 0 else 1) else if x = 1 then z (14 + 16 * j + 1) else if x = 2 then z (14 + 16 * j + 2) else if x = 3 then z (14 + 16 * j + 3) else if x = 4 then (if z (14 + 16 * j + 4) = 0 then 0 else 1) else if x = 5 then z (14 + 16 * j + 5) else if x = 6 then z (14 + 16 * j + 6) else if x = 7 then z (14 + 16 * j + 7) else if x = 8 then z (14 + 16 * j + 8) else if x = 9 then z (14 + 16 * j + 9) else if x = 10 then z (14 + 16 * j + 10) else bI (cvP z j)
def cpJ (f g : Nat → Int32) (j : Nat) : Nat → Int32 := fun q => if (14 + 16 * j ≤ q ∧ q < 30 + 16 * j) ∨ q = 142 + j then g q else f q
def cpI (f g : Nat → Int32) (i : Nat) : Nat → Int32 := fun q => if (14 ≤ q ∧ q < 14 + 16 * i) ∨ (142 ≤ q ∧ q < 142 + i) then g q else f q
def cpK (f g : Nat → Int32) (j k : Nat) : Nat → Int32 := fun q => if 25 + 16 * j ≤ q ∧ q < 25 + 16 * j + k then g q else f q
def cpA (f g : Nat → Int32) (k : Nat) : Nat → Int32 := fun q => if q < k ∨ (14 ≤ q ∧ q < 150) then g q else f q
theorem nI_m1 {j : Nat} (h : j < 8) : ¬ (-1 : Int32) = nI j := by
  intro q
  have := congrArg Int32.toInt q
  rw [nI_toInt (by omega)] at this
  have e : (-1 : Int32).toInt = -1 := by decide
  omega
theorem nI_nm1 {j : Nat} (h : j < 8) : ¬ nI j = (-1 : Int32) := fun q => nI_m1 h q.symm
theorem z_cases10 (x : Int32) : x = 0 ∨ x = 1 ∨ x = 2 ∨ x = 3 ∨ x = 4 ∨ x = 5 ∨ x = 6 ∨ x = 7 ∨ x = 8 ∨ x = 9 ∨ x = 10 ∨ (x.toInt < 0 ∨ 10 < x.toInt) := by
  by_cases h : x.toInt < 0 ∨ 10 < x.toInt
  · simp [h]
  · have h1 : ∃ k : Nat, k ≤ 10 ∧ x = nI k := by
      refine ⟨x.toInt.toNat, by omega, ?_⟩
      apply Int32.toInt_inj.mp
      rw [nI_toInt (by omega)]; omega
    obtain ⟨k, hk, rfl⟩ := h1
    have : k = 0 ∨ k = 1 ∨ k = 2 ∨ k = 3 ∨ k = 4 ∨ k = 5 ∨ k = 6 ∨ k = 7 ∨ k = 8 ∨ k = 9 ∨ k = 10 := by omega
    rcases this with rfl | rfl | rfl | rfl | rfl | rfl | rfl | rfl | rfl | rfl | rfl <;> decide
theorem z_out10 {x : Int32} (h : x.toInt < 0 ∨ 10 < x.toInt) : ¬ x = 0 ∧ ¬ x = 1 ∧ ¬ x = 2 ∧ ¬ x = 3 ∧ ¬ x = 4 ∧ ¬ x = 5 ∧ ¬ x = 6 ∧ ¬ x = 7 ∧ ¬ x = 8 ∧ ¬ x = 9 ∧ ¬ x = 10 := by
  refine ⟨?_, ?_, ?_, ?_, ?_, ?_, ?_, ?_, ?_, ?_, ?_⟩ <;> (intro q; rw [q] at h; revert h; decide)

section XB
variable {l : Launch} {D : va_G} {cI cC cM cB cJ : ClassId} {ad ad2 : Nat → Nat} {z z2 : Nat → Int32} {wr : va_W}
set_option maxHeartbeats 4000000 in
set_option maxRecDepth 100000 in
theorem c_X0_admit {n : Nat} (hn : n < 8) (hz : z 5 = nI n) : zM l D (zT cI cC cM cB cJ) yX0_admit cX0_admit 3 (some .int) ({ frames := 0, cells := 0, slots := 0, locals := 0 } : Room) [.ref (ad 0)] (bkW cI cM ad z wr) (bkW cI cM ad (admZ z n) wr) (some (.int (nI n))) 0 0 := by
  refine z_enter (by decide) (Nat.le_of_ble_eq_true rfl) ?_
  intro p e s m below meth c A S hr hlocks hnm hN hA hK hP hD hS ls hl
  obtain ⟨hx, hb, hml, hown, hts⟩ := id S
  have hl : lv_has ls 3 [(0, .ref (ad 0))] := hl
  have hP : va_P D vwCl (bkW cI cM ad z wr) s.heap := hP
  have hD : va_D A (bkW cI cM ad z wr) := hD
  refine lv_aload_n hx hb dX0_admit_0 rfl (lv_at hl 0 rfl) ?_
  refine va_get (v := .int (nI n)) hx hb hts inTX0 hown hK hP (0) (bk_0) rfl 2 (by decide) (hts _ qf_X0_33) (fun _ h9 => h9) (congrArg (fun x => some (Value.int x)) (hz)) dX0_admit_1 ?_
  refine lv_istore_n (lv' := [(1, .int (nI n)), (0, .ref (ad 0))]) hx hb dX0_admit_4 rfl hl (by decide) rfl (fun ls hl => ?_)
  refine lv_aload_n hx hb dX0_admit_5 rfl (lv_at hl 1 rfl) ?_
  refine lv_dup hx hb dX0_admit_6 rfl ?_
  refine va_get (v := .int (nI n)) hx hb hts inTX0 hown hK hP (0) (bk_0) rfl 2 (by decide) (hts _ qf_X0_33) (fun _ h9 => h9) (congrArg (fun x => some (Value.int x)) (hz)) dX0_admit_7 ?_
  refine lv_iconst (v := 1) hx hb dX0_admit_10 (by decide) ?_
  refine lv_iadd hx hb dX0_admit_11  ?_
  refine z_top (v2 := .int (nI (n + 1))) (congrArg Value.int (nI_1 _)) ?_
  refine z_put (v := .int (nI (n + 1))) (ty := .int) (ws2 := bkW cI cM ad (upd z 5 (nI (n + 1))) wr) hx hb hts inTX0 tyX0 tyX0_ok nmX0 hown hK hP hD hS (0) (bk_0) rfl 2 (by decide) (hts _ qf_X0_33) (fun _ h9 => h9) rfl (by decide +kernel) (rfl) (rfl) (Nat.le_of_ble_eq_true rfl) dX0_admit_12 (bk_w0 _ (by decide) (by decide) bfs_s2) (fun H locs hP hD hS => ?_)
  refine lv_aload_n hx hb dX0_admit_15 rfl (lv_at hl 1 rfl) ?_
  refine va_get (v := .ref (ad 1)) hx hb hts inTX0 hown hK hP (0) (bk_0) rfl 0 (by decide) (hts _ qf_X0_11) (fun _ h9 => h9) (rfl) dX0_admit_16 ?_
  refine lv_iload_n hx hb dX0_admit_19 rfl (lv_at hl 0 rfl) ?_
  refine va_aldq hx hb hK hP (1) 2 (bk_1) rfl (vp_in_nI (show n < 8 by omega) (by omega)) dX0_admit_20 ?_
  refine z_top (v2 := .ref (ad (3 + n))) (z_rf rfl) ?_
  refine lv_astore_n (lv' := [(2, .ref (ad (3 + n))), (1, .int (nI n)), (0, .ref (ad 0))]) hx hb dX0_admit_21 rfl hl (by decide) rfl (fun ls hl => ?_)
  refine lv_aload_n hx hb dX0_admit_22 rfl (lv_at hl 0 rfl) ?_
  refine lv_iconst (v := 1) hx hb dX0_admit_23 (by decide) ?_
  refine z_put (v := .int 1) (ty := .boolean) (ws2 := bkW cI cM ad (upd (upd z 5 (nI (n + 1))) (14 + 16 * n) 1) wr) hx hb hts inTX4 tyX4 tyX4_ok nmX4 hown hK hP hD hS (3 + n) (bk_m (show n < 8 by omega)) rfl 1 (by decide) (hts _ qf_X0_51) (fun _ h9 => h9) rfl (by decide +kernel) (rfl) (rfl) (Nat.le_of_ble_eq_true rfl) dX0_admit_24 (bk_wm _ (show n < 8 by omega) (by omega) (mfs_s1 (show n < 8 by omega))) (fun H locs hP hD hS => ?_)
  refine lv_aload_n hx hb dX0_admit_27 rfl (lv_at hl 0 rfl) ?_
  refine lv_aload_n hx hb dX0_admit_28 rfl (lv_at hl 2 rfl) ?_
  refine va_get (v := .ref (ad 2)) hx hb hts inTX0 hown hK hP (0) (bk_0) rfl 1 (by decide) (hts _ qf_X0_18) (fun _ h9 => h9) (rfl) dX0_admit_29 ?_
  refine lv_iconst (v := 1) hx hb dX0_admit_32 (by decide) ?_
  refine va_iald hx hb hK hP (2) 0 (bk_2) rfl (vp_in_nI (show 1 < 5 by decide) (by omega)) dX0_admit_33 ?_
  refine z_top (v2 := .int (z 1)) (congrArg Value.int ((sfn_at rfl (show 1 < 5 by decide)).trans ((upd_ne (by omega)).trans ((upd_ne (by omega)).trans (rfl))))) ?_
  refine z_put (v := .int (z 1)) (ty := .int) (ws2 := bkW cI cM ad (upd (upd (upd z 5 (nI (n + 1))) (14 + 16 * n) 1) (14 + 16 * n + 1) (z 1)) wr) hx hb hts inTX4 tyX4 tyX4_ok nmX4 hown hK hP hD hS (3 + n) (bk_m (show n < 8 by omega)) rfl 3 (by decide) (hts _ qf_X0_55) (fun _ h9 => h9) rfl (by decide +kernel) (rfl) (rfl) (Nat.le_of_ble_eq_true rfl) dX0_admit_34 (bk_wm _ (show n < 8 by omega) (by omega) (mfs_s3 (show n < 8 by omega))) (fun H locs hP hD hS => ?_)
  refine lv_aload_n hx hb dX0_admit_37 rfl (lv_at hl 0 rfl) ?_
  refine lv_aload_n hx hb dX0_admit_38 rfl (lv_at hl 2 rfl) ?_
  refine va_get (v := .ref (ad 2)) hx hb hts inTX0 hown hK hP (0) (bk_0) rfl 1 (by decide) (hts _ qf_X0_18) (fun _ h9 => h9) (rfl) dX0_admit_39 ?_
  refine lv_iconst (v := 1) hx hb dX0_admit_42 (by decide) ?_
  refine va_iald hx hb hK hP (2) 0 (bk_2) rfl (vp_in_nI (show 1 < 5 by decide) (by omega)) dX0_admit_43 ?_
  refine z_top (v2 := .int (z 1)) (congrArg Value.int ((sfn_at rfl (show 1 < 5 by decide)).trans ((upd_ne (by omega)).trans ((upd_ne (by omega)).trans ((upd_ne (by omega)).trans (rfl)))))) ?_
  refine z_put (v := .int (z 1)) (ty := .int) (ws2 := bkW cI cM ad (upd (upd (upd (upd z 5 (nI (n + 1))) (14 + 16 * n) 1) (14 + 16 * n + 1) (z 1)) (14 + 16 * n + 2) (z 1)) wr) hx hb hts inTX4 tyX4 tyX4_ok nmX4 hown hK hP hD hS (3 + n) (bk_m (show n < 8 by omega)) rfl 4 (by decide) (hts _ qf_X0_58) (fun _ h9 => h9) rfl (by decide +kernel) (rfl) (rfl) (Nat.le_of_ble_eq_true rfl) dX0_admit_44 (bk_wm _ (show n < 8 by omega) (by omega) (mfs_s4 (show n < 8 by omega))) (fun H locs hP hD hS => ?_)
  refine lv_aload_n hx hb dX0_admit_47 rfl (lv_at hl 2 rfl) ?_
  refine lv_dup hx hb dX0_admit_48 rfl ?_
  refine va_get (v := .int (z 6)) hx hb hts inTX0 hown hK hP (0) (bk_0) rfl 3 (by decide) (hts _ qf_X0_36) (fun _ h9 => h9) (congrArg (fun x => some (Value.int x)) ((upd_ne (by omega)).trans ((upd_ne (by omega)).trans ((upd_ne (by omega)).trans ((upd_ne (by omega)).trans (rfl)))))) dX0_admit_49 ?_
  refine lv_aload_n hx hb dX0_admit_52 rfl (lv_at hl 2 rfl) ?_
  refine va_get (v := .ref (ad 2)) hx hb hts inTX0 hown hK hP (0) (bk_0) rfl 1 (by decide) (hts _ qf_X0_18) (fun _ h9 => h9) (rfl) dX0_admit_53 ?_
  refine lv_iconst (v := 1) hx hb dX0_admit_56 (by decide) ?_
  refine va_iald hx hb hK hP (2) 0 (bk_2) rfl (vp_in_nI (show 1 < 5 by decide) (by omega)) dX0_admit_57 ?_
  refine z_top (v2 := .int (z 1)) (congrArg Value.int ((sfn_at rfl (show 1 < 5 by decide)).trans ((upd_ne (by omega)).trans ((upd_ne (by omega)).trans ((upd_ne (by omega)).trans ((upd_ne (by omega)).trans (rfl))))))) ?_
  refine lv_isub hx hb dX0_admit_58  ?_
  refine z_put (v := .int ((z 6) - (z 1))) (ty := .int) (ws2 := bkW cI cM ad (upd (upd (upd (upd (upd z 5 (nI (n + 1))) (14 + 16 * n) 1) (14 + 16 * n + 1) (z 1)) (14 + 16 * n + 2) (z 1)) 6 ((z 6) - (z 1))) wr) hx hb hts inTX0 tyX0 tyX0_ok nmX0 hown hK hP hD hS (0) (bk_0) rfl 3 (by decide) (hts _ qf_X0_36) (fun _ h9 => h9) rfl (by decide +kernel) (rfl) (rfl) (Nat.le_of_ble_eq_true rfl) dX0_admit_59 (bk_w0 _ (by decide) (by decide) bfs_s3) (fun H locs hP hD hS => ?_)
  refine lv_iload_n hx hb dX0_admit_62 rfl (lv_at hl 1 rfl) ?_
  exact z_iret hx hb hr hlocks hP hD hK hS (by first | rfl | (simp only [admZ, minP, maxP, not_true_eq_false, not_false_eq_true, and_self, and_true, true_and, and_false, false_and, or_true, true_or, or_false, false_or, if_true, if_false, ite_true, ite_false]; done) | (simp [admZ, minP, maxP]; done) | (simp_all [admZ, minP, maxP]; done)) (by first | rfl | (simp only [admZ, minP, maxP, not_true_eq_false, not_false_eq_true, and_self, and_true, true_and, and_false, false_and, or_true, true_or, or_false, false_or, if_true, if_false, ite_true, ite_false]; done) | (simp [admZ, minP, maxP]; done) | (simp_all [admZ, minP, maxP]; done)) dX0_admit_63
set_option maxHeartbeats 4000000 in
set_option maxRecDepth 100000 in
theorem c_X0_forgive {n : Nat} (hn : n ≤ 8) (hz : z 5 = nI n) {d : Nat} (hd : d < n) (hz2 : z 10 = nI d) : zM l D (zT cI cC cM cB cJ) yX0_forgive cX0_forgive 1 none ({ frames := 1, cells := 0, slots := 0, locals := 21 } : Room) [.ref (ad 0)] (bkW cI cM ad z wr) (bkW cI cM ad (forgZ z n d) wr) none 0 0 := by
  refine z_enter (by decide) (Nat.le_of_ble_eq_true rfl) ?_
  intro p e s m below meth c A S hr hlocks hnm hN hA hK hP hD hS ls hl
  obtain ⟨hx, hb, hml, hown, hts⟩ := id S
  have hl : lv_has ls 1 [(0, .ref (ad 0))] := hl
  have hP : va_P D vwCl (bkW cI cM ad z wr) s.heap := hP
  have hD : va_D A (bkW cI cM ad z wr) := hD
  refine lv_aload_n hx hb dX0_forgive_0 rfl (lv_at hl 0 rfl) ?_
  refine lv_aload_n hx hb dX0_forgive_1 rfl (lv_at hl 0 rfl) ?_
  refine va_get (v := .int (nI d)) hx hb hts inTX0 hown hK hP (0) (bk_0) rfl 7 (by decide) (hts _ qf_X0_25) (fun _ h9 => h9) (congrArg (fun x => some (Value.int x)) (hz2)) dX0_forgive_2 ?_
  refine z_callV1 (rest := []) S (c_X0_isMember (n := n) (show n ≤ 8 by omega) (hz) (nI d)) qm_X0_79 v_X0_isMember ⟨Nat.le_of_ble_eq_true rfl, Nat.le_of_ble_eq_true rfl⟩ rfl rfl hN hK hP hD hS hA (0) (bk_0) rfl rfl hl.1 rfl (Nat.le_of_ble_eq_true rfl) dX0_forgive_5 ⟨Nat.le_of_ble_eq_true rfl, Nat.le_of_ble_eq_true rfl⟩ (fun H locs hP hD hS => ?_)
  refine lv_if_eq (tgt := 66) hx hb dX0_forgive_8 (by decide) (fun c1 => absurd c1 (bI_n0 ⟨nI_pos (by omega), nI_lt (by omega) (by omega)⟩)) (fun c1 => ?_)
  have c1 := bI_1 c1
  refine lv_aload_n hx hb dX0_forgive_11 rfl (lv_at hl 0 rfl) ?_
  refine va_get (v := .ref (ad 1)) hx hb hts inTX0 hown hK hP (0) (bk_0) rfl 0 (by decide) (hts _ qf_X0_11) (fun _ h9 => h9) (rfl) dX0_forgive_12 ?_
  refine lv_aload_n hx hb dX0_forgive_15 rfl (lv_at hl 0 rfl) ?_
  refine va_get (v := .int (nI d)) hx hb hts inTX0 hown hK hP (0) (bk_0) rfl 7 (by decide) (hts _ qf_X0_25) (fun _ h9 => h9) (congrArg (fun x => some (Value.int x)) (hz2)) dX0_forgive_16 ?_
  refine va_aldq hx hb hK hP (1) 2 (bk_1) rfl (vp_in_nI (show d < 8 by omega) (by omega)) dX0_forgive_19 ?_
  refine z_top (v2 := .ref (ad (3 + d))) (z_rf rfl) ?_
  refine lv_dup hx hb dX0_forgive_20 rfl ?_
  refine va_get (v := .int (z (14 + 16 * d + 1))) hx hb hts inTX4 hown hK hP (3 + d) (bk_m (show d < 8 by omega)) rfl 3 (by decide) (hts _ qf_X0_55) (fun _ h9 => h9) (rfl) dX0_forgive_21 ?_
  refine lv_aload_n hx hb dX0_forgive_24 rfl (lv_at hl 0 rfl) ?_
  refine va_get (v := .int (z 11)) hx hb hts inTX0 hown hK hP (0) (bk_0) rfl 8 (by decide) (hts _ qf_X0_48) (fun _ h9 => h9) (rfl) dX0_forgive_25 ?_
  refine lv_iadd hx hb dX0_forgive_28  ?_
  refine z_put (v := .int ((z (14 + 16 * d + 1)) + (z 11))) (ty := .int) (ws2 := bkW cI cM ad (upd z (14 + 16 * d + 1) ((z (14 + 16 * d + 1)) + (z 11))) wr) hx hb hts inTX4 tyX4 tyX4_ok nmX4 hown hK hP hD hS (3 + d) (bk_m (show d < 8 by omega)) rfl 3 (by decide) (hts _ qf_X0_55) (fun _ h9 => h9) rfl (by decide +kernel) (rfl) (rfl) (Nat.le_of_ble_eq_true rfl) dX0_forgive_29 (bk_wm _ (show d < 8 by omega) (by omega) (mfs_s3 (show d < 8 by omega))) (fun H locs hP hD hS => ?_)
  refine lv_aload_n hx hb dX0_forgive_32 rfl (lv_at hl 0 rfl) ?_
  refine va_get (v := .ref (ad 1)) hx hb hts inTX0 hown hK hP (0) (bk_0) rfl 0 (by decide) (hts _ qf_X0_11) (fun _ h9 => h9) (rfl) dX0_forgive_33 ?_
  refine lv_aload_n hx hb dX0_forgive_36 rfl (lv_at hl 0 rfl) ?_
  refine va_get (v := .int (nI d)) hx hb hts inTX0 hown hK hP (0) (bk_0) rfl 7 (by decide) (hts _ qf_X0_25) (fun _ h9 => h9) (congrArg (fun x => some (Value.int x)) ((upd_ne (by omega)).trans (hz2))) dX0_forgive_37 ?_
  refine va_aldq hx hb hK hP (1) 2 (bk_1) rfl (vp_in_nI (show d < 8 by omega) (by omega)) dX0_forgive_40 ?_
  refine z_top (v2 := .ref (ad (3 + d))) (z_rf rfl) ?_
  refine lv_dup hx hb dX0_forgive_41 rfl ?_
  refine va_get (v := .int (z (14 + 16 * d + 10))) hx hb hts inTX4 hown hK hP (3 + d) (bk_m (show d < 8 by omega)) rfl 11 (by decide) (hts _ qf_X0_162) (fun _ h9 => h9) (congrArg (fun x => some (Value.int x)) ((upd_ne (by omega)).trans (rfl))) dX0_forgive_42 ?_
  refine lv_aload_n hx hb dX0_forgive_45 rfl (lv_at hl 0 rfl) ?_
  refine va_get (v := .int (z 11)) hx hb hts inTX0 hown hK hP (0) (bk_0) rfl 8 (by decide) (hts _ qf_X0_48) (fun _ h9 => h9) (congrArg (fun x => some (Value.int x)) ((upd_ne (by omega)).trans (rfl))) dX0_forgive_46 ?_
  refine lv_iadd hx hb dX0_forgive_49  ?_
  refine z_put (v := .int ((z (14 + 16 * d + 10)) + (z 11))) (ty := .int) (ws2 := bkW cI cM ad (upd (upd z (14 + 16 * d + 1) ((z (14 + 16 * d + 1)) + (z 11))) (14 + 16 * d + 10) ((z (14 + 16 * d + 10)) + (z 11))) wr) hx hb hts inTX4 tyX4 tyX4_ok nmX4 hown hK hP hD hS (3 + d) (bk_m (show d < 8 by omega)) rfl 11 (by decide) (hts _ qf_X0_162) (fun _ h9 => h9) rfl (by decide +kernel) (rfl) (rfl) (Nat.le_of_ble_eq_true rfl) dX0_forgive_50 (bk_wm _ (show d < 8 by omega) (by omega) (mfs_s11 (show d < 8 by omega))) (fun H locs hP hD hS => ?_)
  refine lv_aload_n hx hb dX0_forgive_53 rfl (lv_at hl 0 rfl) ?_
  refine lv_dup hx hb dX0_forgive_54 rfl ?_
  refine va_get (v := .int (z 7)) hx hb hts inTX0 hown hK hP (0) (bk_0) rfl 4 (by decide) (hts _ qf_X0_39) (fun _ h9 => h9) (congrArg (fun x => some (Value.int x)) ((upd_ne (by omega)).trans ((upd_ne (by omega)).trans (rfl)))) dX0_forgive_55 ?_
  refine lv_aload_n hx hb dX0_forgive_58 rfl (lv_at hl 0 rfl) ?_
  refine va_get (v := .int (z 11)) hx hb hts inTX0 hown hK hP (0) (bk_0) rfl 8 (by decide) (hts _ qf_X0_48) (fun _ h9 => h9) (congrArg (fun x => some (Value.int x)) ((upd_ne (by omega)).trans ((upd_ne (by omega)).trans (rfl)))) dX0_forgive_59 ?_
  refine lv_iadd hx hb dX0_forgive_62  ?_
  refine z_put (v := .int ((z 7) + (z 11))) (ty := .int) (ws2 := bkW cI cM ad (upd (upd (upd z (14 + 16 * d + 1) ((z (14 + 16 * d + 1)) + (z 11))) (14 + 16 * d + 10) ((z (14 + 16 * d + 10)) + (z 11))) 7 ((z 7) + (z 11))) wr) hx hb hts inTX0 tyX0 tyX0_ok nmX0 hown hK hP hD hS (0) (bk_0) rfl 4 (by decide) (hts _ qf_X0_39) (fun _ h9 => h9) rfl (by decide +kernel) (rfl) (rfl) (Nat.le_of_ble_eq_true rfl) dX0_forgive_63 (bk_w0 _ (by decide) (by decide) bfs_s4) (fun H locs hP hD hS => ?_)
  refine lv_aload_n hx hb dX0_forgive_66 rfl (lv_at hl 0 rfl) ?_
  refine z_callV0 (rest := []) S (c_X0_dropMotion (n := n) (show n ≤ 8 by omega) ((upd_ne (by omega)).trans ((upd_ne (by omega)).trans ((upd_ne (by omega)).trans (hz))))) qm_X0_68 v_X0_dropMotion ⟨Nat.le_of_ble_eq_true rfl, Nat.le_of_ble_eq_true rfl⟩ rfl rfl hN hK hP hD hS hA (0) (bk_0) rfl rfl hl.1 rfl (Nat.le_of_ble_eq_true rfl) dX0_forgive_67 ⟨Nat.le_of_ble_eq_true rfl, Nat.le_of_ble_eq_true rfl⟩ (fun H locs hP hD hS => ?_)
  exact z_vret hx hb hr hlocks hP hD hK hS (by first | rfl | (simp only [forgZ, minP, maxP, c1, not_true_eq_false, not_false_eq_true, and_self, and_true, true_and, and_false, false_and, or_true, true_or, or_false, false_or, if_true, if_false, ite_true, ite_false]; done) | (simp [forgZ, minP, maxP, c1]; done) | (simp_all [forgZ, minP, maxP]; done)) (rfl) dX0_forgive_70
set_option maxHeartbeats 4000000 in
set_option maxRecDepth 100000 in
theorem c_X0_settleMotion {n : Nat} (hn : n ≤ 8) (hz : z 5 = nI n) {d : Nat} (hd : d < n) (hz2 : z 10 = nI d) : zM l D (zT cI cC cM cB cJ) yX0_settleMotion cX0_settleMotion 2 (some .int) ({ frames := 2, cells := 0, slots := 0, locals := 42 } : Room) [.ref (ad 0)] (bkW cI cM ad z wr) (bkW cI cM ad (setZ z n d) wr) (some (.int (setR z n))) 0 0 := by
  refine z_enter (by decide) (Nat.le_of_ble_eq_true rfl) ?_
  intro p e s m below meth c A S hr hlocks hnm hN hA hK hP hD hS ls hl
  obtain ⟨hx, hb, hml, hown, hts⟩ := id S
  have hl : lv_has ls 2 [(0, .ref (ad 0))] := hl
  have hP : va_P D vwCl (bkW cI cM ad z wr) s.heap := hP
  have hD : va_D A (bkW cI cM ad z wr) := hD
  refine lv_aload_n hx hb dX0_settleMotion_0 rfl (lv_at hl 0 rfl) ?_
  refine z_callV1 (rest := []) S (c_X0_countVoters (n := n) (show n ≤ 8 by omega) (hz)) qm_X0_153 v_X0_countVoters ⟨Nat.le_of_ble_eq_true rfl, Nat.le_of_ble_eq_true rfl⟩ rfl rfl hN hK hP hD hS hA (0) (bk_0) rfl rfl hl.1 rfl (Nat.le_of_ble_eq_true rfl) dX0_settleMotion_1 ⟨Nat.le_of_ble_eq_true rfl, Nat.le_of_ble_eq_true rfl⟩ (fun H locs hP hD hS => ?_)
  refine lv_istore_n (lv' := [(1, .int (cntT z n - 1)), (0, .ref (ad 0))]) hx hb dX0_settleMotion_4 rfl hl (by decide) rfl (fun ls hl => ?_)
  refine lv_aload_n hx hb dX0_settleMotion_5 rfl (lv_at hl 1 rfl) ?_
  refine lv_iconst (v := 1) hx hb dX0_settleMotion_6 (by decide) ?_
  refine z_callV1 (rest := []) S (c_X0_countBallots (n := n) (show n ≤ 8 by omega) (hz) 1) qm_X0_156 v_X0_countBallots ⟨Nat.le_of_ble_eq_true rfl, Nat.le_of_ble_eq_true rfl⟩ rfl rfl hN hK hP hD hS hA (0) (bk_0) rfl rfl hl.1 rfl (Nat.le_of_ble_eq_true rfl) dX0_settleMotion_7 ⟨Nat.le_of_ble_eq_true rfl, Nat.le_of_ble_eq_true rfl⟩ (fun H locs hP hD hS => ?_)
  refine lv_iconst (v := 2) hx hb dX0_settleMotion_10 (by decide) ?_
  refine lv_imul hx hb dX0_settleMotion_11  ?_
  refine lv_iload_n hx hb dX0_settleMotion_12 rfl (lv_at hl 0 rfl) ?_
  refine lv_icmp_le (tgt := 22) hx hb dX0_settleMotion_13 (by decide) (fun c1 => ?_) (fun c1 => ?_)
  · have c1 := z_nlt c1
    refine lv_iload_n hx hb dX0_settleMotion_22 rfl (lv_at hl 0 rfl) ?_
    refine lv_if_le (tgt := 43) hx hb dX0_settleMotion_23 (by decide) (fun c2 => ?_) (fun c2 => ?_)
    · have c2 := z_nlt c2
      refine lv_iconst (v := 0) hx hb dX0_settleMotion_43 (by decide) ?_
      exact z_iret hx hb hr hlocks hP hD hK hS (by first | rfl | (simp only [setZ, setR, minP, maxP, c1, c2, not_true_eq_false, not_false_eq_true, and_self, and_true, true_and, and_false, false_and, or_true, true_or, or_false, false_or, if_true, if_false, ite_true, ite_false]; done) | (simp [setZ, setR, minP, maxP, c1, c2]; done) | (simp_all [setZ, setR, minP, maxP]; done)) (by first | rfl | (simp only [setZ, setR, minP, maxP, c1, c2, not_true_eq_false, not_false_eq_true, and_self, and_true, true_and, and_false, false_and, or_true, true_or, or_false, false_or, if_true, if_false, ite_true, ite_false]; done) | (simp [setZ, setR, minP, maxP, c1, c2]; done) | (simp_all [setZ, setR, minP, maxP]; done)) dX0_settleMotion_44
    · have c2 := z_lt c2
      refine lv_aload_n hx hb dX0_settleMotion_26 rfl (lv_at hl 1 rfl) ?_
      refine lv_iconst (v := 2) hx hb dX0_settleMotion_27 (by decide) ?_
      refine z_callV1 (rest := []) S (c_X0_countBallots (n := n) (show n ≤ 8 by omega) (hz) 2) qm_X0_156 v_X0_countBallots ⟨Nat.le_of_ble_eq_true rfl, Nat.le_of_ble_eq_true rfl⟩ rfl rfl hN hK hP hD hS hA (0) (bk_0) rfl rfl hl.1 rfl (Nat.le_of_ble_eq_true rfl) dX0_settleMotion_28 ⟨Nat.le_of_ble_eq_true rfl, Nat.le_of_ble_eq_true rfl⟩ (fun H locs hP hD hS => ?_)
      refine lv_iconst (v := 2) hx hb dX0_settleMotion_31 (by decide) ?_
      refine lv_imul hx hb dX0_settleMotion_32  ?_
      refine lv_iload_n hx hb dX0_settleMotion_33 rfl (lv_at hl 0 rfl) ?_
      refine lv_icmp_lt (tgt := 43) hx hb dX0_settleMotion_34 (by decide) (fun c3 => ?_) (fun c3 => ?_)
      · skip
        refine lv_iconst (v := 0) hx hb dX0_settleMotion_43 (by decide) ?_
        exact z_iret hx hb hr hlocks hP hD hK hS (by first | rfl | (simp only [setZ, setR, minP, maxP, c1, c2, c3, not_true_eq_false, not_false_eq_true, and_self, and_true, true_and, and_false, false_and, or_true, true_or, or_false, false_or, if_true, if_false, ite_true, ite_false]; done) | (simp [setZ, setR, minP, maxP, c1, c2, c3]; done) | (simp_all [setZ, setR, minP, maxP]; done)) (by first | rfl | (simp only [setZ, setR, minP, maxP, c1, c2, c3, not_true_eq_false, not_false_eq_true, and_self, and_true, true_and, and_false, false_and, or_true, true_or, or_false, false_or, if_true, if_false, ite_true, ite_false]; done) | (simp [setZ, setR, minP, maxP, c1, c2, c3]; done) | (simp_all [setZ, setR, minP, maxP]; done)) dX0_settleMotion_44
      · skip
        refine lv_aload_n hx hb dX0_settleMotion_37 rfl (lv_at hl 1 rfl) ?_
        refine z_callV0 (rest := []) S (c_X0_dropMotion (n := n) (show n ≤ 8 by omega) (hz)) qm_X0_68 v_X0_dropMotion ⟨Nat.le_of_ble_eq_true rfl, Nat.le_of_ble_eq_true rfl⟩ rfl rfl hN hK hP hD hS hA (0) (bk_0) rfl rfl hl.1 rfl (Nat.le_of_ble_eq_true rfl) dX0_settleMotion_38 ⟨Nat.le_of_ble_eq_true rfl, Nat.le_of_ble_eq_true rfl⟩ (fun H locs hP hD hS => ?_)
        refine lv_iconst (v := 2) hx hb dX0_settleMotion_41 (by decide) ?_
        exact z_iret hx hb hr hlocks hP hD hK hS (by first | rfl | (simp only [setZ, setR, minP, maxP, c1, c2, c3, not_true_eq_false, not_false_eq_true, and_self, and_true, true_and, and_false, false_and, or_true, true_or, or_false, false_or, if_true, if_false, ite_true, ite_false]; done) | (simp [setZ, setR, minP, maxP, c1, c2, c3]; done) | (simp_all [setZ, setR, minP, maxP]; done)) (by first | rfl | (simp only [setZ, setR, minP, maxP, c1, c2, c3, not_true_eq_false, not_false_eq_true, and_self, and_true, true_and, and_false, false_and, or_true, true_or, or_false, false_or, if_true, if_false, ite_true, ite_false]; done) | (simp [setZ, setR, minP, maxP, c1, c2, c3]; done) | (simp_all [setZ, setR, minP, maxP]; done)) dX0_settleMotion_42
  · have c1 := z_lt c1
    refine lv_aload_n hx hb dX0_settleMotion_16 rfl (lv_at hl 1 rfl) ?_
    refine z_callV0 (rest := []) S (c_X0_forgive (n := n) (show n ≤ 8 by omega) (hz) (d := d) (show d < n by omega) (hz2)) qm_X0_159 v_X0_forgive ⟨Nat.le_of_ble_eq_true rfl, Nat.le_of_ble_eq_true rfl⟩ rfl rfl hN hK hP hD hS hA (0) (bk_0) rfl rfl hl.1 rfl (Nat.le_of_ble_eq_true rfl) dX0_settleMotion_17 ⟨Nat.le_of_ble_eq_true rfl, Nat.le_of_ble_eq_true rfl⟩ (fun H locs hP hD hS => ?_)
    refine lv_iconst (v := 1) hx hb dX0_settleMotion_20 (by decide) ?_
    exact z_iret hx hb hr hlocks hP hD hK hS (by first | rfl | (simp only [setZ, setR, minP, maxP, c1, not_true_eq_false, not_false_eq_true, and_self, and_true, true_and, and_false, false_and, or_true, true_or, or_false, false_or, if_true, if_false, ite_true, ite_false]; done) | (simp [setZ, setR, minP, maxP, c1]; done) | (simp_all [setZ, setR, minP, maxP]; done)) (by first | rfl | (simp only [setZ, setR, minP, maxP, c1, not_true_eq_false, not_false_eq_true, and_self, and_true, true_and, and_false, false_and, or_true, true_or, or_false, false_or, if_true, if_false, ite_true, ite_false]; done) | (simp [setZ, setR, minP, maxP, c1]; done) | (simp_all [setZ, setR, minP, maxP]; done)) dX0_settleMotion_21
set_option maxHeartbeats 4000000 in
set_option maxRecDepth 100000 in
theorem c_X0_dismiss_a {n : Nat} (hn : n ≤ 8) (hz : z 5 = nI n) {j : Nat} (hj : j < 8) (hz2 : z 10 = -1) : zM l D (zT cI cC cM cB cJ) yX0_dismiss cX0_dismiss 4 (some .int) ({ frames := 3, cells := 0, slots := 0, locals := 63 } : Room) [.ref (ad 0), .int (nI j)] (bkW cI cM ad z wr) (bkW cI cM ad (outZ z j) wr) (some (.int (z (14 + 16 * j + 1)))) 0 0 := by
  refine z_enter (by decide) (Nat.le_of_ble_eq_true rfl) ?_
  intro p e s m below meth c A S hr hlocks hnm hN hA hK hP hD hS ls hl
  obtain ⟨hx, hb, hml, hown, hts⟩ := id S
  have hl : lv_has ls 4 [(0, .ref (ad 0)), (1, .int (nI j))] := hl
  have hP : va_P D vwCl (bkW cI cM ad z wr) s.heap := hP
  have hD : va_D A (bkW cI cM ad z wr) := hD
  refine lv_aload_n hx hb dX0_dismiss_0 rfl (lv_at hl 0 rfl) ?_
  refine va_get (v := .ref (ad 1)) hx hb hts inTX0 hown hK hP (0) (bk_0) rfl 0 (by decide) (hts _ qf_X0_11) (fun _ h9 => h9) (rfl) dX0_dismiss_1 ?_
  refine lv_iload_n hx hb dX0_dismiss_4 rfl (lv_at hl 1 rfl) ?_
  refine va_aldq hx hb hK hP (1) 2 (bk_1) rfl (vp_in_nI (show j < 8 by omega) (by omega)) dX0_dismiss_5 ?_
  refine z_top (v2 := .ref (ad (3 + j))) (z_rf rfl) ?_
  refine lv_astore_n (lv' := [(2, .ref (ad (3 + j))), (0, .ref (ad 0)), (1, .int (nI j))]) hx hb dX0_dismiss_6 rfl hl (by decide) rfl (fun ls hl => ?_)
  refine lv_aload_n hx hb dX0_dismiss_7 rfl (lv_at hl 0 rfl) ?_
  refine va_get (v := .int (z (14 + 16 * j + 1))) hx hb hts inTX4 hown hK hP (3 + j) (bk_m (show j < 8 by omega)) rfl 3 (by decide) (hts _ qf_X0_55) (fun _ h9 => h9) (rfl) dX0_dismiss_8 ?_
  refine lv_istore_n (lv' := [(3, .int (z (14 + 16 * j + 1))), (2, .ref (ad (3 + j))), (0, .ref (ad 0)), (1, .int (nI j))]) hx hb dX0_dismiss_11 rfl hl (by decide) rfl (fun ls hl => ?_)
  refine lv_aload_n hx hb dX0_dismiss_12 rfl (lv_at hl 2 rfl) ?_
  refine lv_iload_n hx hb dX0_dismiss_13 rfl (lv_at hl 3 rfl) ?_
  refine lv_iload_n hx hb dX0_dismiss_14 rfl (lv_at hl 0 rfl) ?_
  refine z_callV0 (rest := []) S (c_X0_payToCommon j (show j < 8 by omega) (z (14 + 16 * j + 1)) (z (14 + 16 * j + 1)) (z 6) (rfl) (rfl)) qm_X0_61 v_X0_payToCommon ⟨Nat.le_of_ble_eq_true rfl, Nat.le_of_ble_eq_true rfl⟩ rfl rfl hN hK hP hD hS hA (0) (bk_0) rfl rfl hl.1 rfl (Nat.le_of_ble_eq_true rfl) dX0_dismiss_15 ⟨Nat.le_of_ble_eq_true rfl, Nat.le_of_ble_eq_true rfl⟩ (fun H locs hP hD hS => ?_)
  refine lv_aload_n hx hb dX0_dismiss_18 rfl (lv_at hl 1 rfl) ?_
  refine lv_iconst (v := 0) hx hb dX0_dismiss_19 (by decide) ?_
  refine z_put (v := .int 0) (ty := .int) (ws2 := bkW cI cM ad (upd (upd (upd z (14 + 16 * j + 1) ((z (14 + 16 * j + 1)) - (z (14 + 16 * j + 1)))) 6 ((z 6) + (z (14 + 16 * j + 1)))) (14 + 16 * j + 2) 0) wr) hx hb hts inTX4 tyX4 tyX4_ok nmX4 hown hK hP hD hS (3 + j) (bk_m (show j < 8 by omega)) rfl 4 (by decide) (hts _ qf_X0_58) (fun _ h9 => h9) rfl (by decide +kernel) (rfl) (rfl) (Nat.le_of_ble_eq_true rfl) dX0_dismiss_20 (bk_wm _ (show j < 8 by omega) (by omega) (mfs_s4 (show j < 8 by omega))) (fun H locs hP hD hS => ?_)
  refine lv_aload_n hx hb dX0_dismiss_23 rfl (lv_at hl 1 rfl) ?_
  refine lv_iconst (v := 0) hx hb dX0_dismiss_24 (by decide) ?_
  refine z_put (v := .int 0) (ty := .boolean) (ws2 := bkW cI cM ad (upd (upd (upd (upd z (14 + 16 * j + 1) ((z (14 + 16 * j + 1)) - (z (14 + 16 * j + 1)))) 6 ((z 6) + (z (14 + 16 * j + 1)))) (14 + 16 * j + 2) 0) (14 + 16 * j) 0) wr) hx hb hts inTX4 tyX4 tyX4_ok nmX4 hown hK hP hD hS (3 + j) (bk_m (show j < 8 by omega)) rfl 1 (by decide) (hts _ qf_X0_51) (fun _ h9 => h9) rfl (by decide +kernel) (rfl) (rfl) (Nat.le_of_ble_eq_true rfl) dX0_dismiss_25 (bk_wm _ (show j < 8 by omega) (by omega) (mfs_s1 (show j < 8 by omega))) (fun H locs hP hD hS => ?_)
  refine lv_aload_n hx hb dX0_dismiss_28 rfl (lv_at hl 1 rfl) ?_
  refine lv_iconst (v := 0) hx hb dX0_dismiss_29 (by decide) ?_
  refine z_put (v := .int 0) (ty := .int) (ws2 := bkW cI cM ad (upd (upd (upd (upd (upd z (14 + 16 * j + 1) ((z (14 + 16 * j + 1)) - (z (14 + 16 * j + 1)))) 6 ((z 6) + (z (14 + 16 * j + 1)))) (14 + 16 * j + 2) 0) (14 + 16 * j) 0) (142 + j) 0) wr) hx hb hts inTX4 tyX4 tyX4_ok nmX4 hown hK hP hD hS (3 + j) (bk_m (show j < 8 by omega)) rfl 12 (by decide) (hts _ qf_X0_65) (fun _ h9 => h9) rfl (by decide +kernel) (rfl) (rfl) (Nat.le_of_ble_eq_true rfl) dX0_dismiss_30 (bk_wm _ (show j < 8 by omega) (by omega) (mfs_s12 (show j < 8 by omega))) (fun H locs hP hD hS => ?_)
  refine lv_aload_n hx hb dX0_dismiss_33 rfl (lv_at hl 2 rfl) ?_
  refine va_get (v := .int (-1)) hx hb hts inTX0 hown hK hP (0) (bk_0) rfl 7 (by decide) (hts _ qf_X0_25) (fun _ h9 => h9) (congrArg (fun x => some (Value.int x)) ((upd_ne (by omega)).trans ((upd_ne (by omega)).trans ((upd_ne (by omega)).trans ((upd_ne (by omega)).trans ((upd_ne (by omega)).trans (hz2))))))) dX0_dismiss_34 ?_
  refine lv_iload_n hx hb dX0_dismiss_37 rfl (lv_at hl 3 rfl) ?_
  refine lv_icmp_ne (tgt := 48) hx hb dX0_dismiss_38 (by decide) (fun c1 => ?_) (fun c1 => absurd c1 (nI_m1 (by omega)))
  refine lv_aload_n hx hb dX0_dismiss_48 rfl (lv_at hl 2 rfl) ?_
  refine z_callV1 (rest := []) S (c_X0_hasMotion ) qm_X0_71 v_X0_hasMotion ⟨Nat.le_of_ble_eq_true rfl, Nat.le_of_ble_eq_true rfl⟩ rfl rfl hN hK hP hD hS hA (0) (bk_0) rfl rfl hl.1 rfl (Nat.le_of_ble_eq_true rfl) dX0_dismiss_49 ⟨Nat.le_of_ble_eq_true rfl, Nat.le_of_ble_eq_true rfl⟩ (fun H locs hP hD hS => ?_)
  refine lv_if_eq (tgt := 60) hx hb dX0_dismiss_52 (by decide) (fun c2 => ?_) (fun c2 => absurd (bI_f (fun q => q ((upd_ne (by omega)).trans ((upd_ne (by omega)).trans ((upd_ne (by omega)).trans ((upd_ne (by omega)).trans ((upd_ne (by omega)).trans hz2))))))) c2)
  have c2 := bI_0n c2
  refine lv_iload_n hx hb dX0_dismiss_60 rfl (lv_at hl 0 rfl) ?_
  exact z_iret hx hb hr hlocks hP hD hK hS (by first | rfl | (simp only [outZ, minP, maxP, c1, c2, not_true_eq_false, not_false_eq_true, and_self, and_true, true_and, and_false, false_and, or_true, true_or, or_false, false_or, if_true, if_false, ite_true, ite_false]; done) | (simp [outZ, minP, maxP, c1, c2]; done) | (simp_all [outZ, minP, maxP]; done)) (by first | rfl | (simp only [outZ, minP, maxP, c1, c2, not_true_eq_false, not_false_eq_true, and_self, and_true, true_and, and_false, false_and, or_true, true_or, or_false, false_or, if_true, if_false, ite_true, ite_false]; done) | (simp [outZ, minP, maxP, c1, c2]; done) | (simp_all [outZ, minP, maxP]; done)) dX0_dismiss_61
set_option maxHeartbeats 4000000 in
set_option maxRecDepth 100000 in
theorem c_X0_dismiss_b {n : Nat} (hn : n ≤ 8) (hz : z 5 = nI n) {j : Nat} (hj : j < 8) {d : Nat} (hd : d < n) (hz2 : z 10 = nI d) : zM l D (zT cI cC cM cB cJ) yX0_dismiss cX0_dismiss 4 (some .int) ({ frames := 3, cells := 0, slots := 0, locals := 63 } : Room) [.ref (ad 0), .int (nI j)] (bkW cI cM ad z wr) (bkW cI cM ad (disZ z n j d) wr) (some (.int (z (14 + 16 * j + 1)))) 0 0 := by
  refine z_enter (by decide) (Nat.le_of_ble_eq_true rfl) ?_
  intro p e s m below meth c A S hr hlocks hnm hN hA hK hP hD hS ls hl
  obtain ⟨hx, hb, hml, hown, hts⟩ := id S
  have hl : lv_has ls 4 [(0, .ref (ad 0)), (1, .int (nI j))] := hl
  have hP : va_P D vwCl (bkW cI cM ad z wr) s.heap := hP
  have hD : va_D A (bkW cI cM ad z wr) := hD
  refine lv_aload_n hx hb dX0_dismiss_0 rfl (lv_at hl 0 rfl) ?_
  refine va_get (v := .ref (ad 1)) hx hb hts inTX0 hown hK hP (0) (bk_0) rfl 0 (by decide) (hts _ qf_X0_11) (fun _ h9 => h9) (rfl) dX0_dismiss_1 ?_
  refine lv_iload_n hx hb dX0_dismiss_4 rfl (lv_at hl 1 rfl) ?_
  refine va_aldq hx hb hK hP (1) 2 (bk_1) rfl (vp_in_nI (show j < 8 by omega) (by omega)) dX0_dismiss_5 ?_
  refine z_top (v2 := .ref (ad (3 + j))) (z_rf rfl) ?_
  refine lv_astore_n (lv' := [(2, .ref (ad (3 + j))), (0, .ref (ad 0)), (1, .int (nI j))]) hx hb dX0_dismiss_6 rfl hl (by decide) rfl (fun ls hl => ?_)
  refine lv_aload_n hx hb dX0_dismiss_7 rfl (lv_at hl 0 rfl) ?_
  refine va_get (v := .int (z (14 + 16 * j + 1))) hx hb hts inTX4 hown hK hP (3 + j) (bk_m (show j < 8 by omega)) rfl 3 (by decide) (hts _ qf_X0_55) (fun _ h9 => h9) (rfl) dX0_dismiss_8 ?_
  refine lv_istore_n (lv' := [(3, .int (z (14 + 16 * j + 1))), (2, .ref (ad (3 + j))), (0, .ref (ad 0)), (1, .int (nI j))]) hx hb dX0_dismiss_11 rfl hl (by decide) rfl (fun ls hl => ?_)
  refine lv_aload_n hx hb dX0_dismiss_12 rfl (lv_at hl 2 rfl) ?_
  refine lv_iload_n hx hb dX0_dismiss_13 rfl (lv_at hl 3 rfl) ?_
  refine lv_iload_n hx hb dX0_dismiss_14 rfl (lv_at hl 0 rfl) ?_
  refine z_callV0 (rest := []) S (c_X0_payToCommon j (show j < 8 by omega) (z (14 + 16 * j + 1)) (z (14 + 16 * j + 1)) (z 6) (rfl) (rfl)) qm_X0_61 v_X0_payToCommon ⟨Nat.le_of_ble_eq_true rfl, Nat.le_of_ble_eq_true rfl⟩ rfl rfl hN hK hP hD hS hA (0) (bk_0) rfl rfl hl.1 rfl (Nat.le_of_ble_eq_true rfl) dX0_dismiss_15 ⟨Nat.le_of_ble_eq_true rfl, Nat.le_of_ble_eq_true rfl⟩ (fun H locs hP hD hS => ?_)
  refine lv_aload_n hx hb dX0_dismiss_18 rfl (lv_at hl 1 rfl) ?_
  refine lv_iconst (v := 0) hx hb dX0_dismiss_19 (by decide) ?_
  refine z_put (v := .int 0) (ty := .int) (ws2 := bkW cI cM ad (upd (upd (upd z (14 + 16 * j + 1) ((z (14 + 16 * j + 1)) - (z (14 + 16 * j + 1)))) 6 ((z 6) + (z (14 + 16 * j + 1)))) (14 + 16 * j + 2) 0) wr) hx hb hts inTX4 tyX4 tyX4_ok nmX4 hown hK hP hD hS (3 + j) (bk_m (show j < 8 by omega)) rfl 4 (by decide) (hts _ qf_X0_58) (fun _ h9 => h9) rfl (by decide +kernel) (rfl) (rfl) (Nat.le_of_ble_eq_true rfl) dX0_dismiss_20 (bk_wm _ (show j < 8 by omega) (by omega) (mfs_s4 (show j < 8 by omega))) (fun H locs hP hD hS => ?_)
  refine lv_aload_n hx hb dX0_dismiss_23 rfl (lv_at hl 1 rfl) ?_
  refine lv_iconst (v := 0) hx hb dX0_dismiss_24 (by decide) ?_
  refine z_put (v := .int 0) (ty := .boolean) (ws2 := bkW cI cM ad (upd (upd (upd (upd z (14 + 16 * j + 1) ((z (14 + 16 * j + 1)) - (z (14 + 16 * j + 1)))) 6 ((z 6) + (z (14 + 16 * j + 1)))) (14 + 16 * j + 2) 0) (14 + 16 * j) 0) wr) hx hb hts inTX4 tyX4 tyX4_ok nmX4 hown hK hP hD hS (3 + j) (bk_m (show j < 8 by omega)) rfl 1 (by decide) (hts _ qf_X0_51) (fun _ h9 => h9) rfl (by decide +kernel) (rfl) (rfl) (Nat.le_of_ble_eq_true rfl) dX0_dismiss_25 (bk_wm _ (show j < 8 by omega) (by omega) (mfs_s1 (show j < 8 by omega))) (fun H locs hP hD hS => ?_)
  refine lv_aload_n hx hb dX0_dismiss_28 rfl (lv_at hl 1 rfl) ?_
  refine lv_iconst (v := 0) hx hb dX0_dismiss_29 (by decide) ?_
  refine z_put (v := .int 0) (ty := .int) (ws2 := bkW cI cM ad (upd (upd (upd (upd (upd z (14 + 16 * j + 1) ((z (14 + 16 * j + 1)) - (z (14 + 16 * j + 1)))) 6 ((z 6) + (z (14 + 16 * j + 1)))) (14 + 16 * j + 2) 0) (14 + 16 * j) 0) (142 + j) 0) wr) hx hb hts inTX4 tyX4 tyX4_ok nmX4 hown hK hP hD hS (3 + j) (bk_m (show j < 8 by omega)) rfl 12 (by decide) (hts _ qf_X0_65) (fun _ h9 => h9) rfl (by decide +kernel) (rfl) (rfl) (Nat.le_of_ble_eq_true rfl) dX0_dismiss_30 (bk_wm _ (show j < 8 by omega) (by omega) (mfs_s12 (show j < 8 by omega))) (fun H locs hP hD hS => ?_)
  refine lv_aload_n hx hb dX0_dismiss_33 rfl (lv_at hl 2 rfl) ?_
  refine va_get (v := .int (nI d)) hx hb hts inTX0 hown hK hP (0) (bk_0) rfl 7 (by decide) (hts _ qf_X0_25) (fun _ h9 => h9) (congrArg (fun x => some (Value.int x)) ((upd_ne (by omega)).trans ((upd_ne (by omega)).trans ((upd_ne (by omega)).trans ((upd_ne (by omega)).trans ((upd_ne (by omega)).trans (hz2))))))) dX0_dismiss_34 ?_
  refine lv_iload_n hx hb dX0_dismiss_37 rfl (lv_at hl 3 rfl) ?_
  refine lv_icmp_ne (tgt := 48) hx hb dX0_dismiss_38 (by decide) (fun c1 => ?_) (fun c1 => ?_)
  · skip
    refine lv_aload_n hx hb dX0_dismiss_48 rfl (lv_at hl 2 rfl) ?_
    refine z_callV1 (rest := []) S (c_X0_hasMotion ) qm_X0_71 v_X0_hasMotion ⟨Nat.le_of_ble_eq_true rfl, Nat.le_of_ble_eq_true rfl⟩ rfl rfl hN hK hP hD hS hA (0) (bk_0) rfl rfl hl.1 rfl (Nat.le_of_ble_eq_true rfl) dX0_dismiss_49 ⟨Nat.le_of_ble_eq_true rfl, Nat.le_of_ble_eq_true rfl⟩ (fun H locs hP hD hS => ?_)
    refine lv_if_eq (tgt := 60) hx hb dX0_dismiss_52 (by decide) (fun c2 => absurd c2 (bI_n0 (fun q => nI_nm1 (show d < 8 by omega) (((upd_ne (by omega)).trans ((upd_ne (by omega)).trans ((upd_ne (by omega)).trans ((upd_ne (by omega)).trans ((upd_ne (by omega)).trans hz2))))).symm.trans q)))) (fun c2 => ?_)
    have c2 := bI_1 c2
    refine lv_aload_n hx hb dX0_dismiss_55 rfl (lv_at hl 2 rfl) ?_
    refine z_callV1 (rest := []) S (c_X0_settleMotion (n := n) (show n ≤ 8 by omega) ((upd_ne (by omega)).trans ((upd_ne (by omega)).trans ((upd_ne (by omega)).trans ((upd_ne (by omega)).trans ((upd_ne (by omega)).trans (hz)))))) (d := d) (show d < n by omega) ((upd_ne (by omega)).trans ((upd_ne (by omega)).trans ((upd_ne (by omega)).trans ((upd_ne (by omega)).trans ((upd_ne (by omega)).trans (hz2))))))) qm_X0_75 v_X0_settleMotion ⟨Nat.le_of_ble_eq_true rfl, Nat.le_of_ble_eq_true rfl⟩ rfl rfl hN hK hP hD hS hA (0) (bk_0) rfl rfl hl.1 rfl (Nat.le_of_ble_eq_true rfl) dX0_dismiss_56 ⟨Nat.le_of_ble_eq_true rfl, Nat.le_of_ble_eq_true rfl⟩ (fun H locs hP hD hS => ?_)
    refine lv_pop hx hb dX0_dismiss_59 rfl ?_
    refine lv_iload_n hx hb dX0_dismiss_60 rfl (lv_at hl 0 rfl) ?_
    exact z_iret hx hb hr hlocks hP hD hK hS (by first | rfl | (simp only [disZ, outZ, minP, maxP, c1, c2, not_true_eq_false, not_false_eq_true, and_self, and_true, true_and, and_false, false_and, or_true, true_or, or_false, false_or, if_true, if_false, ite_true, ite_false]; done) | (simp [disZ, outZ, minP, maxP, c1, c2]; done) | (simp_all [disZ, outZ, minP, maxP]; done)) (by first | rfl | (simp only [disZ, outZ, minP, maxP, c1, c2, not_true_eq_false, not_false_eq_true, and_self, and_true, true_and, and_false, false_and, or_true, true_or, or_false, false_or, if_true, if_false, ite_true, ite_false]; done) | (simp [disZ, outZ, minP, maxP, c1, c2]; done) | (simp_all [disZ, outZ, minP, maxP]; done)) dX0_dismiss_61
  · skip
    refine lv_aload_n hx hb dX0_dismiss_41 rfl (lv_at hl 2 rfl) ?_
    refine z_callV0 (rest := []) S (c_X0_dropMotion (n := n) (show n ≤ 8 by omega) ((upd_ne (by omega)).trans ((upd_ne (by omega)).trans ((upd_ne (by omega)).trans ((upd_ne (by omega)).trans ((upd_ne (by omega)).trans (hz))))))) qm_X0_68 v_X0_dropMotion ⟨Nat.le_of_ble_eq_true rfl, Nat.le_of_ble_eq_true rfl⟩ rfl rfl hN hK hP hD hS hA (0) (bk_0) rfl rfl hl.1 rfl (Nat.le_of_ble_eq_true rfl) dX0_dismiss_42 ⟨Nat.le_of_ble_eq_true rfl, Nat.le_of_ble_eq_true rfl⟩ (fun H locs hP hD hS => ?_)
    refine lv_goto (tgt := 60) hx hb dX0_dismiss_45 (by decide) ?_
    refine lv_iload_n hx hb dX0_dismiss_60 rfl (lv_at hl 0 rfl) ?_
    exact z_iret hx hb hr hlocks hP hD hK hS (by first | rfl | (simp only [disZ, outZ, minP, maxP, c1, not_true_eq_false, not_false_eq_true, and_self, and_true, true_and, and_false, false_and, or_true, true_or, or_false, false_or, if_true, if_false, ite_true, ite_false]; done) | (simp [disZ, outZ, minP, maxP, c1]; done) | (simp_all [disZ, outZ, minP, maxP]; done)) (by first | rfl | (simp only [disZ, outZ, minP, maxP, c1, not_true_eq_false, not_false_eq_true, and_self, and_true, true_and, and_false, false_and, or_true, true_or, or_false, false_or, if_true, if_false, ite_true, ite_false]; done) | (simp [disZ, outZ, minP, maxP, c1]; done) | (simp_all [disZ, outZ, minP, maxP]; done)) dX0_dismiss_61
set_option maxHeartbeats 4000000 in
set_option maxRecDepth 100000 in
theorem c_X0_cheapestGiver {n : Nat} (hn : n ≤ 8) (hz : z 5 = nI n) (t k : Nat) (ht : t < 8) (hk : k < 5) (mn : Int32) : zM l D (zT cI cC cM cB cJ) yX0_cheapestGiver cX0_cheapestGiver 6 (some .int) ({ frames := 5, cells := 0, slots := 0, locals := 111 } : Room) [.ref (ad 0), .int (nI t), .int (nI k), .int mn] (bkW cI cM ad z wr) (bkW cI cM ad z wr) (some (.int (chG z n t k mn n))) 0 0 := by
  refine z_enter (by decide) (Nat.le_of_ble_eq_true rfl) ?_
  intro p e s m below meth c A S hr hlocks hnm hN hA hK hP hD hS ls hl
  obtain ⟨hx, hb, hml, hown, hts⟩ := id S
  have hl : lv_has ls 6 [(0, .ref (ad 0)), (1, .int (nI t)), (2, .int (nI k)), (3, .int mn)] := hl
  have hP : va_P D vwCl (bkW cI cM ad z wr) s.heap := hP
  have hD : va_D A (bkW cI cM ad z wr) := hD
  refine lv_iconst (v := (-1)) hx hb dX0_cheapestGiver_0 (by decide) ?_
  refine lv_istore (lv' := [(4, .int (-1)), (0, .ref (ad 0)), (1, .int (nI t)), (2, .int (nI k)), (3, .int mn)]) hx hb dX0_cheapestGiver_1 hl (by decide) rfl (fun ls hl => ?_)
  refine lv_iconst (v := 0) hx hb dX0_cheapestGiver_3 (by decide) ?_
  refine lv_istore (lv' := [(5, .int 0), (4, .int (-1)), (0, .ref (ad 0)), (1, .int (nI t)), (2, .int (nI k)), (3, .int mn)]) hx hb dX0_cheapestGiver_4 hl (by decide) rfl (fun ls hl => ?_)
  have K6 : ∀ (n6 i : Nat), i + n6 = n → ∀ (H : Heap) (locs : List Loc), va_P D vwCl (bkW cI cM ad z wr) H → va_D A (bkW cI cM ad z wr) → va_S A s.heap H locs → ∀ ls : Array Slot, lv_has ls 6 [(0, .ref (ad 0)), (1, .int (nI t)), (2, .int (nI k)), (3, .int mn), (4, .int (chG z n t k mn i)), (5, .int (nI i))] → W p l e ({ frames := 5, cells := 0, slots := 0, locals := 111 } : Room) s m ([.ref (ad 0), .int (nI t), .int (nI k), .int mn] : List Value).toArray below meth c H locs 0 0 (MQ below (zQ D (zT cI cC cM cB cJ) (bkW cI cM ad z wr) (some (.int (chG z n t k mn n))) A) ([.ref (ad 0), .int (nI t), .int (nI k), .int mn] : List Value).toArray s 0 0 A) (F0 m 6 ls []) := by
    intro n6
    induction n6 with
    | zero =>
      intro i h_i H locs hP hD hS ls hl
      have ei : n = i := by omega
      subst ei
      refine lv_iload hx hb dX0_cheapestGiver_6 (lv_at hl 5 rfl) ?_
      refine lv_aload_n hx hb dX0_cheapestGiver_8 rfl (lv_at hl 0 rfl) ?_
      refine va_get (v := .int (nI n)) hx hb hts inTX0 hown hK hP (0) (bk_0) rfl 2 (by decide) (hts _ qf_X0_33) (fun _ h9 => h9) (congrArg (fun x => some (Value.int x)) (hz)) dX0_cheapestGiver_9 ?_
      refine lv_icmp_ge (tgt := 62) hx hb dX0_cheapestGiver_12 (by decide) (fun c1 => ?_) (fun c1 => absurd (nI_le (a := n) (b := n) (by omega) (by omega)) c1)
      have c1 := z_nlt c1
      refine lv_iload hx hb dX0_cheapestGiver_62 (lv_at hl 4 rfl) ?_
      exact z_iret hx hb hr hlocks hP hD hK hS (rfl) (by first | rfl | (simp only [minP, maxP, c1, not_true_eq_false, not_false_eq_true, and_self, and_true, true_and, and_false, false_and, or_true, true_or, or_false, false_or, if_true, if_false, ite_true, ite_false]; done) | (simp [minP, maxP, c1]; done) | (simp_all [minP, maxP]; done)) dX0_cheapestGiver_64
    | succ n6 ih6 =>
      intro i h_i H locs hP hD hS ls hl
      have li : i < n := by omega
      refine lv_iload hx hb dX0_cheapestGiver_6 (lv_at hl 5 rfl) ?_
      refine lv_aload_n hx hb dX0_cheapestGiver_8 rfl (lv_at hl 0 rfl) ?_
      refine va_get (v := .int (nI n)) hx hb hts inTX0 hown hK hP (0) (bk_0) rfl 2 (by decide) (hts _ qf_X0_33) (fun _ h9 => h9) (congrArg (fun x => some (Value.int x)) (hz)) dX0_cheapestGiver_9 ?_
      refine lv_icmp_ge (tgt := 62) hx hb dX0_cheapestGiver_12 (by decide) (fun c2 => absurd c2 (nI_ge (a := i) (b := n) (by omega) (by omega))) (fun c2 => ?_)
      have c2 := z_lt c2
      refine lv_iload hx hb dX0_cheapestGiver_15 (lv_at hl 5 rfl) ?_
      refine lv_iload_n hx hb dX0_cheapestGiver_17 rfl (lv_at hl 1 rfl) ?_
      refine lv_icmp_eq (tgt := 56) hx hb dX0_cheapestGiver_18 (by decide) (fun c3 => ?_) (fun c3 => ?_)
      · skip
        refine lv_iinc (v := nI (i + 1)) (lv' := [(5, .int (nI (i + 1))), (0, .ref (ad 0)), (1, .int (nI t)), (2, .int (nI k)), (3, .int mn), (4, .int (chG z n t k mn i))]) hx hb dX0_cheapestGiver_56 hl (k := 5) rfl (nI_1 _) (by decide) rfl (fun ls hl => ?_)
        refine lv_goto (tgt := 6) hx hb dX0_cheapestGiver_59 (by decide) ?_
        have hl := (congrArg (fun qv_ => lv_has ls 6 [(5, .int (nI (i + 1))), (0, .ref (ad 0)), (1, .int (nI t)), (2, .int (nI k)), (3, .int mn), (4, qv_)]) (show Value.int (chG z n t k mn i) = .int (chG z n t k mn (i + 1)) from congrArg Value.int (by first | rfl | (simp only [chG, c2, c3, not_true_eq_false, not_false_eq_true, and_self, and_true, true_and, and_false, false_and, or_true, true_or, or_false, false_or, if_true, if_false, ite_true, ite_false]; done) | (simp [chG, c2, c3]; done)))).mp hl
        exact ih6 (i + 1) (by omega) _ _ hP hD hS ls (lv_sub hl [1, 2, 3, 4, 5, 0] rfl)
      · skip
        refine lv_aload_n hx hb dX0_cheapestGiver_21 rfl (lv_at hl 0 rfl) ?_
        refine lv_iload hx hb dX0_cheapestGiver_22 (lv_at hl 5 rfl) ?_
        refine lv_iload_n hx hb dX0_cheapestGiver_24 rfl (lv_at hl 1 rfl) ?_
        refine lv_iload_n hx hb dX0_cheapestGiver_25 rfl (lv_at hl 2 rfl) ?_
        refine lv_iload_n hx hb dX0_cheapestGiver_26 rfl (lv_at hl 3 rfl) ?_
        refine z_callV1 (rest := []) S (c_X0_allowsDeal (n := n) (show n ≤ 8 by omega) (hz) i t k (show i < 8 by omega) (show t < 8 by omega) (show k < 5 by omega) mn) qm_X0_124 v_X0_allowsDeal ⟨Nat.le_of_ble_eq_true rfl, Nat.le_of_ble_eq_true rfl⟩ rfl rfl hN hK hP hD hS hA (0) (bk_0) rfl rfl hl.1 rfl (Nat.le_of_ble_eq_true rfl) dX0_cheapestGiver_27 ⟨Nat.le_of_ble_eq_true rfl, Nat.le_of_ble_eq_true rfl⟩ (fun H locs hP hD hS => ?_)
        refine lv_if_eq (tgt := 56) hx hb dX0_cheapestGiver_30 (by decide) (fun c4 => ?_) (fun c4 => ?_)
        · have c4 := bI_0 c4
          refine lv_iinc (v := nI (i + 1)) (lv' := [(5, .int (nI (i + 1))), (0, .ref (ad 0)), (1, .int (nI t)), (2, .int (nI k)), (3, .int mn), (4, .int (chG z n t k mn i))]) hx hb dX0_cheapestGiver_56 hl (k := 5) rfl (nI_1 _) (by decide) rfl (fun ls hl => ?_)
          refine lv_goto (tgt := 6) hx hb dX0_cheapestGiver_59 (by decide) ?_
          have hl := (congrArg (fun qv_ => lv_has ls 6 [(5, .int (nI (i + 1))), (0, .ref (ad 0)), (1, .int (nI t)), (2, .int (nI k)), (3, .int mn), (4, qv_)]) (show Value.int (chG z n t k mn i) = .int (chG z n t k mn (i + 1)) from congrArg Value.int (by first | rfl | (simp only [chG, c2, c3, c4, not_true_eq_false, not_false_eq_true, and_self, and_true, true_and, and_false, false_and, or_true, true_or, or_false, false_or, if_true, if_false, ite_true, ite_false]; done) | (simp [chG, c2, c3, c4]; done)))).mp hl
          exact ih6 (i + 1) (by omega) _ _ hP hD hS ls (lv_sub hl [1, 2, 3, 4, 5, 0] rfl)
        · have c4 := bI_1 c4
          refine lv_iload hx hb dX0_cheapestGiver_33 (lv_at hl 4 rfl) ?_
          refine lv_iconst (v := (-1)) hx hb dX0_cheapestGiver_35 (by decide) ?_
          refine lv_icmp_eq (tgt := 52) hx hb dX0_cheapestGiver_36 (by decide) (fun c5 => ?_) (fun c5 => ?_)
          · skip
            refine lv_iload hx hb dX0_cheapestGiver_52 (lv_at hl 5 rfl) ?_
            refine lv_istore (lv' := [(4, .int (nI i)), (0, .ref (ad 0)), (1, .int (nI t)), (2, .int (nI k)), (3, .int mn), (5, .int (nI i))]) hx hb dX0_cheapestGiver_54 hl (by decide) rfl (fun ls hl => ?_)
            refine lv_iinc (v := nI (i + 1)) (lv' := [(5, .int (nI (i + 1))), (4, .int (nI i)), (0, .ref (ad 0)), (1, .int (nI t)), (2, .int (nI k)), (3, .int mn)]) hx hb dX0_cheapestGiver_56 hl (k := 5) rfl (nI_1 _) (by decide) rfl (fun ls hl => ?_)
            refine lv_goto (tgt := 6) hx hb dX0_cheapestGiver_59 (by decide) ?_
            have hl := (congrArg (fun qv_ => lv_has ls 6 [(5, .int (nI (i + 1))), (4, qv_), (0, .ref (ad 0)), (1, .int (nI t)), (2, .int (nI k)), (3, .int mn)]) (show Value.int (nI i) = .int (chG z n t k mn (i + 1)) from congrArg Value.int (by first | rfl | (simp only [chG, c2, c3, c4, c5, not_true_eq_false, not_false_eq_true, and_self, and_true, true_and, and_false, false_and, or_true, true_or, or_false, false_or, if_true, if_false, ite_true, ite_false]; done) | (simp [chG, c2, c3, c4, c5]; done)))).mp hl
            exact ih6 (i + 1) (by omega) _ _ hP hD hS ls (lv_sub hl [2, 3, 4, 5, 1, 0] rfl)
          · skip
            refine lv_aload_n hx hb dX0_cheapestGiver_39 rfl (lv_at hl 0 rfl) ?_
            refine lv_iload hx hb dX0_cheapestGiver_40 (lv_at hl 5 rfl) ?_
            refine lv_iload hx hb dX0_cheapestGiver_42 (lv_at hl 4 rfl) ?_
            obtain ⟨b_, hb_, eb_⟩ := chG_nat (by omega) c5
            refine z_top (v2 := .int (nI b_)) (congrArg Value.int eb_) ?_
            refine lv_iload_n hx hb dX0_cheapestGiver_44 rfl (lv_at hl 2 rfl) ?_
            refine lv_iload_n hx hb dX0_cheapestGiver_45 rfl (lv_at hl 3 rfl) ?_
            refine z_callV1 (rest := []) S (c_X0_isCheaper i b_ k (show i < 8 by omega) (show b_ < 8 by omega) (show k < 5 by omega) mn) qm_X0_128 v_X0_isCheaper ⟨Nat.le_of_ble_eq_true rfl, Nat.le_of_ble_eq_true rfl⟩ rfl rfl hN hK hP hD hS hA (0) (bk_0) rfl rfl hl.1 rfl (Nat.le_of_ble_eq_true rfl) dX0_cheapestGiver_46 ⟨Nat.le_of_ble_eq_true rfl, Nat.le_of_ble_eq_true rfl⟩ (fun H locs hP hD hS => ?_)
            refine lv_if_eq (tgt := 56) hx hb dX0_cheapestGiver_49 (by decide) (fun c6 => ?_) (fun c6 => ?_)
            · have c6 := bI_0 c6
              refine lv_iinc (v := nI (i + 1)) (lv' := [(5, .int (nI (i + 1))), (0, .ref (ad 0)), (1, .int (nI t)), (2, .int (nI k)), (3, .int mn), (4, .int (chG z n t k mn i))]) hx hb dX0_cheapestGiver_56 hl (k := 5) rfl (nI_1 _) (by decide) rfl (fun ls hl => ?_)
              refine lv_goto (tgt := 6) hx hb dX0_cheapestGiver_59 (by decide) ?_
              have hl := (congrArg (fun qv_ => lv_has ls 6 [(5, .int (nI (i + 1))), (0, .ref (ad 0)), (1, .int (nI t)), (2, .int (nI k)), (3, .int mn), (4, qv_)]) (show Value.int (chG z n t k mn i) = .int (chG z n t k mn (i + 1)) from congrArg Value.int (by first | rfl | (simp only [chG, c2, c3, c4, c5, eb_, nI_cl8 hb_, nI_nm1 hb_, c6, not_true_eq_false, not_false_eq_true, and_self, and_true, true_and, and_false, false_and, or_true, true_or, or_false, false_or, if_true, if_false, ite_true, ite_false]; done) | (simp [chG, c2, c3, c4, c5, eb_, nI_cl8 hb_, nI_nm1 hb_, c6]; done)))).mp hl
              exact ih6 (i + 1) (by omega) _ _ hP hD hS ls (lv_sub hl [1, 2, 3, 4, 5, 0] rfl)
            · have c6 := bI_1 c6
              refine lv_iload hx hb dX0_cheapestGiver_52 (lv_at hl 5 rfl) ?_
              refine lv_istore (lv' := [(4, .int (nI i)), (0, .ref (ad 0)), (1, .int (nI t)), (2, .int (nI k)), (3, .int mn), (5, .int (nI i))]) hx hb dX0_cheapestGiver_54 hl (by decide) rfl (fun ls hl => ?_)
              refine lv_iinc (v := nI (i + 1)) (lv' := [(5, .int (nI (i + 1))), (4, .int (nI i)), (0, .ref (ad 0)), (1, .int (nI t)), (2, .int (nI k)), (3, .int mn)]) hx hb dX0_cheapestGiver_56 hl (k := 5) rfl (nI_1 _) (by decide) rfl (fun ls hl => ?_)
              refine lv_goto (tgt := 6) hx hb dX0_cheapestGiver_59 (by decide) ?_
              have hl := (congrArg (fun qv_ => lv_has ls 6 [(5, .int (nI (i + 1))), (4, qv_), (0, .ref (ad 0)), (1, .int (nI t)), (2, .int (nI k)), (3, .int mn)]) (show Value.int (nI i) = .int (chG z n t k mn (i + 1)) from congrArg Value.int (by first | rfl | (simp only [chG, c2, c3, c4, c5, eb_, nI_cl8 hb_, nI_nm1 hb_, c6, not_true_eq_false, not_false_eq_true, and_self, and_true, true_and, and_false, false_and, or_true, true_or, or_false, false_or, if_true, if_false, ite_true, ite_false]; done) | (simp [chG, c2, c3, c4, c5, eb_, nI_cl8 hb_, nI_nm1 hb_, c6]; done)))).mp hl
              exact ih6 (i + 1) (by omega) _ _ hP hD hS ls (lv_sub hl [2, 3, 4, 5, 1, 0] rfl)
  have hl := (congrArg (fun qv_ => lv_has ls 6 [(5, .int 0), (4, qv_), (0, .ref (ad 0)), (1, .int (nI t)), (2, .int (nI k)), (3, .int mn)]) (show Value.int (-1) = .int (chG z n t k mn 0) from congrArg Value.int (by rfl))).mp hl
  have hl := (congrArg (fun qv_ => lv_has ls 6 [(5, qv_), (4, .int (chG z n t k mn 0)), (0, .ref (ad 0)), (1, .int (nI t)), (2, .int (nI k)), (3, .int mn)]) (show Value.int 0 = .int (nI 0) from congrArg Value.int (by rfl))).mp hl
  exact K6 n 0 (by omega) _ _ hP hD hS ls (lv_sub hl [2, 3, 4, 5, 1, 0] rfl)
set_option maxHeartbeats 4000000 in
set_option maxRecDepth 100000 in
theorem c_X4_rust (j : Nat) (hj : j < 8) (r : Int32) : zM l D (zT cI cC cM cB cJ) yX4_rust cX4_rust 3 none ({ frames := 1, cells := 0, slots := 0, locals := 21 } : Room) [.ref (ad (3 + j)), .int r] (bkW cI cM ad z wr) (bkW cI cM ad (rustZ z j r 5) wr) none 0 0 := by
  refine z_enter (by decide) (Nat.le_of_ble_eq_true rfl) ?_
  intro p e s m below meth c A S hr hlocks hnm hN hA hK hP hD hS ls hl
  obtain ⟨hx, hb, hml, hown, hts⟩ := id S
  have hl : lv_has ls 3 [(0, .ref (ad (3 + j))), (1, .int r)] := hl
  have hP : va_P D vwCl (bkW cI cM ad z wr) s.heap := hP
  have hD : va_D A (bkW cI cM ad z wr) := hD
  refine lv_iconst (v := 0) hx hb dX4_rust_0 (by decide) ?_
  refine lv_istore_n (lv' := [(2, .int 0), (0, .ref (ad (3 + j))), (1, .int r)]) hx hb dX4_rust_1 rfl hl (by decide) rfl (fun ls hl => ?_)
  have K2 : ∀ (n2 i : Nat), i + n2 = 5 → ∀ (H : Heap) (locs : List Loc), va_P D vwCl (bkW cI cM ad (rustZ z j r i) wr) H → va_D A (bkW cI cM ad (rustZ z j r i) wr) → va_S A s.heap H locs → ∀ ls : Array Slot, lv_has ls 3 [(0, .ref (ad (3 + j))), (1, .int r), (2, .int (nI i))] → W p l e ({ frames := 1, cells := 0, slots := 0, locals := 21 } : Room) s m ([.ref (ad (3 + j)), .int r] : List Value).toArray below meth c H locs 0 0 (MQ below (zQ D (zT cI cC cM cB cJ) (bkW cI cM ad (rustZ z j r 5) wr) none A) ([.ref (ad (3 + j)), .int r] : List Value).toArray s 0 0 A) (F0 m 2 ls []) := by
    intro n2
    induction n2 with
    | zero =>
      intro i h_i H locs hP hD hS ls hl
      have ei : 5 = i := by omega
      subst ei
      refine lv_iload_n hx hb dX4_rust_2 rfl (lv_at hl 2 rfl) ?_
      refine lv_iconst (v := 5) hx hb dX4_rust_3 (by decide) ?_
      refine lv_icmp_ge (tgt := 31) hx hb dX4_rust_4 (by decide) (fun c1 => ?_) (fun c1 => absurd (nI_le (a := 5) (b := 5) (by omega) (by omega)) c1)
      have c1 := z_nlt c1
      exact z_vret hx hb hr hlocks hP hD hK hS (rfl) (rfl) dX4_rust_31
    | succ n2 ih2 =>
      intro i h_i H locs hP hD hS ls hl
      have li : i < 5 := by omega
      refine lv_iload_n hx hb dX4_rust_2 rfl (lv_at hl 2 rfl) ?_
      refine lv_iconst (v := 5) hx hb dX4_rust_3 (by decide) ?_
      refine lv_icmp_ge (tgt := 31) hx hb dX4_rust_4 (by decide) (fun c2 => absurd c2 (nI_ge (a := i) (b := 5) (by omega) (by omega))) (fun c2 => ?_)
      have c2 := z_lt c2
      refine lv_aload_n hx hb dX4_rust_7 rfl (lv_at hl 0 rfl) ?_
      refine va_get (v := .ref (ad (11 + j))) hx hb hts inTX4 hown hK hP (3 + j) (bk_m (show j < 8 by omega)) rfl 0 (by decide) (hts _ qf_X4_9) (fun _ h9 => h9) (rfl) dX4_rust_8 ?_
      refine lv_iload_n hx hb dX4_rust_11 rfl (lv_at hl 2 rfl) ?_
      refine lv_aload_n hx hb dX4_rust_12 rfl (lv_at hl 0 rfl) ?_
      refine va_get (v := .ref (ad (11 + j))) hx hb hts inTX4 hown hK hP (3 + j) (bk_m (show j < 8 by omega)) rfl 0 (by decide) (hts _ qf_X4_9) (fun _ h9 => h9) (rfl) dX4_rust_13 ?_
      refine lv_iload_n hx hb dX4_rust_16 rfl (lv_at hl 2 rfl) ?_
      refine va_iald hx hb hK hP (11 + j) 0 (bk_p (show j < 8 by omega)) rfl (vp_in_nI (show i < 5 by omega) (by omega)) dX4_rust_17 ?_
      refine z_top (v2 := .int (z (25 + 16 * j + i))) (congrArg Value.int ((pfn_at rfl (show i < 5 by omega)).trans (rustZ_at _ (by omega)))) ?_
      refine lv_iload_n hx hb dX4_rust_18 rfl (lv_at hl 1 rfl) ?_
      refine lv_isub hx hb dX4_rust_19  ?_
      refine lv_iconst (v := 0) hx hb dX4_rust_20 (by decide) ?_
      refine va_mmax hx hb (hml.trans hl.1.symm) hown (hts _ qm_X4_66) (hts _ qt_Mmax) (hts _ qn_J9) (hts _ qc_Mmax) (Nat.le_of_ble_eq_true rfl) (Nat.le_of_ble_eq_true rfl) (Nat.le_of_ble_eq_true rfl) (Nat.le_of_ble_eq_true rfl) dX4_rust_21 ?_
      refine z_iast (ws2 := bkW cI cM ad (upd (rustZ z j r i) (25 + 16 * j + i) (maxP ((z (25 + 16 * j + i)) - r) 0)) wr) hx hb hK hP hD hS (11 + j) 0 (bk_p (show j < 8 by omega)) rfl (vp_in_nI (show i < 5 by omega) (by omega)) dX4_rust_24 (z_ixw rfl (by omega) (fun q_ => (bkW cI cM ad (rustZ z j r i) wr).set (11 + j) (ad (11 + j), .inl (cI, 5, .inl (upd (pfn (rustZ z j r i) j) q_ (maxP ((z (25 + 16 * j + i)) - r) 0))))) (bk_wp (show j < 8 by omega) (show i < 5 by omega))) (fun H locs hP hD hS => ?_)
      refine lv_iinc (v := nI (i + 1)) (lv' := [(2, .int (nI (i + 1))), (0, .ref (ad (3 + j))), (1, .int r)]) hx hb dX4_rust_25 hl (k := 2) rfl (nI_1 _) (by decide) rfl (fun ls hl => ?_)
      refine lv_goto (tgt := 2) hx hb dX4_rust_28 (by decide) ?_
      have hP := va_P_eq (w2 := bkW cI cM ad (rustZ z j r (i + 1)) wr) (rfl) hP
      have hD := va_D_eq (w2 := bkW cI cM ad (rustZ z j r (i + 1)) wr) (rfl) hD
      exact ih2 (i + 1) (by omega) _ _ hP hD hS ls (lv_sub hl [1, 2, 0] rfl)
  have hl := (congrArg (fun qv_ => lv_has ls 3 [(2, qv_), (0, .ref (ad (3 + j))), (1, .int r)]) (show Value.int 0 = .int (nI 0) from congrArg Value.int (rfl))).mp hl
  have hP := va_P_eq (w2 := bkW cI cM ad (rustZ z j r 0) wr) (rfl) hP
  have hD := va_D_eq (w2 := bkW cI cM ad (rustZ z j r 0) wr) (rfl) hD
  exact K2 5 0 (by omega) _ _ hP hD hS ls (lv_sub hl [1, 2, 0] rfl)
set_option maxHeartbeats 4000000 in
set_option maxRecDepth 100000 in
theorem c_X0_endWeekOf (j : Nat) (hj : j < 8) : zM l D (zT cI cC cM cB cJ) yX0_endWeekOf cX0_endWeekOf 4 (some .int) ({ frames := 2, cells := 0, slots := 0, locals := 43 } : Room) [.ref (ad 0), .int (nI j)] (bkW cI cM ad z wr) (bkW cI cM ad (ewZ z j) wr) (some (.int (ewR z j))) 0 0 := by
  refine z_enter (by decide) (Nat.le_of_ble_eq_true rfl) ?_
  intro p e s m below meth c A S hr hlocks hnm hN hA hK hP hD hS ls hl
  obtain ⟨hx, hb, hml, hown, hts⟩ := id S
  have hl : lv_has ls 4 [(0, .ref (ad 0)), (1, .int (nI j))] := hl
  have hP : va_P D vwCl (bkW cI cM ad z wr) s.heap := hP
  have hD : va_D A (bkW cI cM ad z wr) := hD
  refine lv_aload_n hx hb dX0_endWeekOf_0 rfl (lv_at hl 0 rfl) ?_
  refine va_get (v := .ref (ad 1)) hx hb hts inTX0 hown hK hP (0) (bk_0) rfl 0 (by decide) (hts _ qf_X0_11) (fun _ h9 => h9) (rfl) dX0_endWeekOf_1 ?_
  refine lv_iload_n hx hb dX0_endWeekOf_4 rfl (lv_at hl 1 rfl) ?_
  refine va_aldq hx hb hK hP (1) 2 (bk_1) rfl (vp_in_nI (show j < 8 by omega) (by omega)) dX0_endWeekOf_5 ?_
  refine z_top (v2 := .ref (ad (3 + j))) (z_rf rfl) ?_
  refine lv_astore_n (lv' := [(2, .ref (ad (3 + j))), (0, .ref (ad 0)), (1, .int (nI j))]) hx hb dX0_endWeekOf_6 rfl hl (by decide) rfl (fun ls hl => ?_)
  refine lv_aload_n hx hb dX0_endWeekOf_7 rfl (lv_at hl 0 rfl) ?_
  refine lv_aload_n hx hb dX0_endWeekOf_8 rfl (lv_at hl 0 rfl) ?_
  refine va_get (v := .int (z (14 + 16 * j + 4))) hx hb hts inTX4 hown hK hP (3 + j) (bk_m (show j < 8 by omega)) rfl 2 (by decide) (hts _ qf_X0_100) (fun _ h9 => h9) (rfl) dX0_endWeekOf_9 ?_
  refine lv_if_eq (tgt := 19) hx hb dX0_endWeekOf_12 (by decide) (fun c1 => ?_) (fun c1 => ?_)
  · skip
    refine lv_aload_n hx hb dX0_endWeekOf_19 rfl (lv_at hl 0 rfl) ?_
    refine va_get (v := .int (z (14 + 16 * j + 3))) hx hb hts inTX4 hown hK hP (3 + j) (bk_m (show j < 8 by omega)) rfl 5 (by decide) (hts _ qf_X0_137) (fun _ h9 => h9) (rfl) dX0_endWeekOf_20 ?_
    refine lv_iconst (v := 1) hx hb dX0_endWeekOf_23 (by decide) ?_
    refine lv_iadd hx hb dX0_endWeekOf_24  ?_
    refine z_put (v := .int ((z (14 + 16 * j + 3)) + 1)) (ty := .int) (ws2 := bkW cI cM ad (upd z (14 + 16 * j + 3) ((z (14 + 16 * j + 3)) + 1)) wr) hx hb hts inTX4 tyX4 tyX4_ok nmX4 hown hK hP hD hS (3 + j) (bk_m (show j < 8 by omega)) rfl 5 (by decide) (hts _ qf_X0_137) (fun _ h9 => h9) rfl (by decide +kernel) (rfl) (rfl) (Nat.le_of_ble_eq_true rfl) dX0_endWeekOf_25 (bk_wm _ (show j < 8 by omega) (by omega) (mfs_s5 (show j < 8 by omega))) (fun H locs hP hD hS => ?_)
    refine lv_aload_n hx hb dX0_endWeekOf_28 rfl (lv_at hl 0 rfl) ?_
    refine lv_iconst (v := 0) hx hb dX0_endWeekOf_29 (by decide) ?_
    refine z_put (v := .int 0) (ty := .boolean) (ws2 := bkW cI cM ad (upd (upd z (14 + 16 * j + 3) ((z (14 + 16 * j + 3)) + 1)) (14 + 16 * j + 4) 0) wr) hx hb hts inTX4 tyX4 tyX4_ok nmX4 hown hK hP hD hS (3 + j) (bk_m (show j < 8 by omega)) rfl 2 (by decide) (hts _ qf_X0_100) (fun _ h9 => h9) rfl (by decide +kernel) (rfl) (rfl) (Nat.le_of_ble_eq_true rfl) dX0_endWeekOf_30 (bk_wm _ (show j < 8 by omega) (by omega) (mfs_s2 (show j < 8 by omega))) (fun H locs hP hD hS => ?_)
    refine lv_aload_n hx hb dX0_endWeekOf_33 rfl (lv_at hl 0 rfl) ?_
    refine va_get (v := .int ((z (14 + 16 * j + 3)) + 1)) hx hb hts inTX4 hown hK hP (3 + j) (bk_m (show j < 8 by omega)) rfl 5 (by decide) (hts _ qf_X0_137) (fun _ h9 => h9) (congrArg (fun x => some (Value.int x)) ((upd_ne (by omega)).trans (upd_eq rfl))) dX0_endWeekOf_34 ?_
    refine lv_aload_n hx hb dX0_endWeekOf_37 rfl (lv_at hl 1 rfl) ?_
    refine va_get (v := .ref (ad 2)) hx hb hts inTX0 hown hK hP (0) (bk_0) rfl 1 (by decide) (hts _ qf_X0_18) (fun _ h9 => h9) (rfl) dX0_endWeekOf_38 ?_
    refine lv_iconst (v := 2) hx hb dX0_endWeekOf_41 (by decide) ?_
    refine va_iald hx hb hK hP (2) 0 (bk_2) rfl (vp_in_nI (show 2 < 5 by decide) (by omega)) dX0_endWeekOf_42 ?_
    refine z_top (v2 := .int (z 2)) (congrArg Value.int ((sfn_at rfl (show 2 < 5 by decide)).trans ((upd_ne (by omega)).trans ((upd_ne (by omega)).trans (rfl))))) ?_
    refine lv_icmp_gt (tgt := 48) hx hb dX0_endWeekOf_43 (by decide) (fun c2 => ?_) (fun c2 => ?_)
    · skip
      refine lv_aload_n hx hb dX0_endWeekOf_48 rfl (lv_at hl 0 rfl) ?_
      refine va_get (v := .int (z (14 + 16 * j + 1))) hx hb hts inTX4 hown hK hP (3 + j) (bk_m (show j < 8 by omega)) rfl 3 (by decide) (hts _ qf_X0_55) (fun _ h9 => h9) (congrArg (fun x => some (Value.int x)) ((upd_ne (by omega)).trans ((upd_ne (by omega)).trans (rfl)))) dX0_endWeekOf_49 ?_
      refine lv_aload_n hx hb dX0_endWeekOf_52 rfl (lv_at hl 1 rfl) ?_
      refine va_get (v := .ref (ad 2)) hx hb hts inTX0 hown hK hP (0) (bk_0) rfl 1 (by decide) (hts _ qf_X0_18) (fun _ h9 => h9) (rfl) dX0_endWeekOf_53 ?_
      refine lv_iconst (v := 3) hx hb dX0_endWeekOf_56 (by decide) ?_
      refine va_iald hx hb hK hP (2) 0 (bk_2) rfl (vp_in_nI (show 3 < 5 by decide) (by omega)) dX0_endWeekOf_57 ?_
      refine z_top (v2 := .int (z 3)) (congrArg Value.int ((sfn_at rfl (show 3 < 5 by decide)).trans ((upd_ne (by omega)).trans ((upd_ne (by omega)).trans (rfl))))) ?_
      refine z_callSN1 (rest := []) S (c_X5_decayingPart (z (14 + 16 * j + 1)) (z 3)) hN.2.2.2.2 t_X5_decayingPart ⟨Nat.le_of_ble_eq_true rfl, Nat.le_of_ble_eq_true rfl⟩ rfl rfl hN hK hP hD hS hA rfl hl.1 rfl (Nat.le_of_ble_eq_true rfl) dX0_endWeekOf_58 ⟨Nat.le_of_ble_eq_true rfl, Nat.le_of_ble_eq_true rfl⟩ (fun H locs hP hD hS => ?_)
      refine lv_istore_n (lv' := [(3, .int (decP (z (14 + 16 * j + 1)) (z 3))), (2, .ref (ad (3 + j))), (0, .ref (ad 0)), (1, .int (nI j))]) hx hb dX0_endWeekOf_61 rfl hl (by decide) rfl (fun ls hl => ?_)
      refine lv_aload_n hx hb dX0_endWeekOf_62 rfl (lv_at hl 1 rfl) ?_
      refine lv_dup hx hb dX0_endWeekOf_63 rfl ?_
      refine va_get (v := .int (z (14 + 16 * j + 9))) hx hb hts inTX4 hown hK hP (3 + j) (bk_m (show j < 8 by omega)) rfl 10 (by decide) (hts _ qf_X0_143) (fun _ h9 => h9) (congrArg (fun x => some (Value.int x)) ((upd_ne (by omega)).trans ((upd_ne (by omega)).trans (rfl)))) dX0_endWeekOf_64 ?_
      refine lv_iload_n hx hb dX0_endWeekOf_67 rfl (lv_at hl 0 rfl) ?_
      refine lv_iadd hx hb dX0_endWeekOf_68  ?_
      refine z_put (v := .int ((z (14 + 16 * j + 9)) + (decP (z (14 + 16 * j + 1)) (z 3)))) (ty := .int) (ws2 := bkW cI cM ad (upd (upd (upd z (14 + 16 * j + 3) ((z (14 + 16 * j + 3)) + 1)) (14 + 16 * j + 4) 0) (14 + 16 * j + 9) ((z (14 + 16 * j + 9)) + (decP (z (14 + 16 * j + 1)) (z 3)))) wr) hx hb hts inTX4 tyX4 tyX4_ok nmX4 hown hK hP hD hS (3 + j) (bk_m (show j < 8 by omega)) rfl 10 (by decide) (hts _ qf_X0_143) (fun _ h9 => h9) rfl (by decide +kernel) (rfl) (rfl) (Nat.le_of_ble_eq_true rfl) dX0_endWeekOf_69 (bk_wm _ (show j < 8 by omega) (by omega) (mfs_s10 (show j < 8 by omega))) (fun H locs hP hD hS => ?_)
      refine lv_aload_n hx hb dX0_endWeekOf_72 rfl (lv_at hl 2 rfl) ?_
      refine lv_iload_n hx hb dX0_endWeekOf_73 rfl (lv_at hl 3 rfl) ?_
      refine lv_iload_n hx hb dX0_endWeekOf_74 rfl (lv_at hl 0 rfl) ?_
      refine z_callV0 (rest := []) S (c_X0_payToCommon j (show j < 8 by omega) (decP (z (14 + 16 * j + 1)) (z 3)) (z (14 + 16 * j + 1)) (z 6) ((upd_ne (by omega)).trans ((upd_ne (by omega)).trans ((upd_ne (by omega)).trans (rfl)))) ((upd_ne (by omega)).trans ((upd_ne (by omega)).trans ((upd_ne (by omega)).trans (rfl))))) qm_X0_61 v_X0_payToCommon ⟨Nat.le_of_ble_eq_true rfl, Nat.le_of_ble_eq_true rfl⟩ rfl rfl hN hK hP hD hS hA (0) (bk_0) rfl rfl hl.1 rfl (Nat.le_of_ble_eq_true rfl) dX0_endWeekOf_75 ⟨Nat.le_of_ble_eq_true rfl, Nat.le_of_ble_eq_true rfl⟩ (fun H locs hP hD hS => ?_)
      refine lv_aload_n hx hb dX0_endWeekOf_78 rfl (lv_at hl 1 rfl) ?_
      refine lv_aload_n hx hb dX0_endWeekOf_79 rfl (lv_at hl 2 rfl) ?_
      refine va_get (v := .ref (ad 2)) hx hb hts inTX0 hown hK hP (0) (bk_0) rfl 1 (by decide) (hts _ qf_X0_18) (fun _ h9 => h9) (rfl) dX0_endWeekOf_80 ?_
      refine lv_iconst (v := 4) hx hb dX0_endWeekOf_83 (by decide) ?_
      refine va_iald hx hb hK hP (2) 0 (bk_2) rfl (vp_in_nI (show 4 < 5 by decide) (by omega)) dX0_endWeekOf_84 ?_
      refine z_top (v2 := .int (z 4)) (congrArg Value.int ((sfn_at rfl (show 4 < 5 by decide)).trans ((upd_ne (by omega)).trans ((upd_ne (by omega)).trans ((upd_ne (by omega)).trans ((upd_ne (by omega)).trans ((upd_ne (by omega)).trans (rfl)))))))) ?_
      refine z_callV0 (rest := []) S (c_X4_rust j (show j < 8 by omega) (z 4)) qm_X0_146 v_X4_rust ⟨Nat.le_of_ble_eq_true rfl, Nat.le_of_ble_eq_true rfl⟩ rfl rfl hN hK hP hD hS hA (3 + j) (bk_m (show j < 8 by omega)) rfl rfl hl.1 rfl (Nat.le_of_ble_eq_true rfl) dX0_endWeekOf_85 ⟨Nat.le_of_ble_eq_true rfl, Nat.le_of_ble_eq_true rfl⟩ (fun H locs hP hD hS => ?_)
      refine lv_iload_n hx hb dX0_endWeekOf_88 rfl (lv_at hl 0 rfl) ?_
      exact z_iret hx hb hr hlocks hP hD hK hS (by first | rfl | (simp only [ewZ, ewR, idlP, minP, maxP, c1, c2, not_true_eq_false, not_false_eq_true, and_self, and_true, true_and, and_false, false_and, or_true, true_or, or_false, false_or, if_true, if_false, ite_true, ite_false]; done) | (simp [ewZ, ewR, idlP, minP, maxP, c1, c2]; done) | (simp_all [ewZ, ewR, idlP, minP, maxP]; done)) (by first | rfl | (simp only [ewZ, ewR, idlP, minP, maxP, c1, c2, not_true_eq_false, not_false_eq_true, and_self, and_true, true_and, and_false, false_and, or_true, true_or, or_false, false_or, if_true, if_false, ite_true, ite_false]; done) | (simp [ewZ, ewR, idlP, minP, maxP, c1, c2]; done) | (simp_all [ewZ, ewR, idlP, minP, maxP]; done)) dX0_endWeekOf_89
    · skip
      refine lv_iconst (v := 0) hx hb dX0_endWeekOf_46 (by decide) ?_
      exact z_iret hx hb hr hlocks hP hD hK hS (by first | rfl | (simp only [ewZ, ewR, idlP, minP, maxP, c1, c2, not_true_eq_false, not_false_eq_true, and_self, and_true, true_and, and_false, false_and, or_true, true_or, or_false, false_or, if_true, if_false, ite_true, ite_false]; done) | (simp [ewZ, ewR, idlP, minP, maxP, c1, c2]; done) | (simp_all [ewZ, ewR, idlP, minP, maxP]; done)) (by first | rfl | (simp only [ewZ, ewR, idlP, minP, maxP, c1, c2, not_true_eq_false, not_false_eq_true, and_self, and_true, true_and, and_false, false_and, or_true, true_or, or_false, false_or, if_true, if_false, ite_true, ite_false]; done) | (simp [ewZ, ewR, idlP, minP, maxP, c1, c2]; done) | (simp_all [ewZ, ewR, idlP, minP, maxP]; done)) dX0_endWeekOf_47
  · skip
    refine lv_iconst (v := 0) hx hb dX0_endWeekOf_15 (by decide) ?_
    refine lv_goto (tgt := 25) hx hb dX0_endWeekOf_16 (by decide) ?_
    refine z_put (v := .int 0) (ty := .int) (ws2 := bkW cI cM ad (upd z (14 + 16 * j + 3) 0) wr) hx hb hts inTX4 tyX4 tyX4_ok nmX4 hown hK hP hD hS (3 + j) (bk_m (show j < 8 by omega)) rfl 5 (by decide) (hts _ qf_X0_137) (fun _ h9 => h9) rfl (by decide +kernel) (rfl) (rfl) (Nat.le_of_ble_eq_true rfl) dX0_endWeekOf_25 (bk_wm _ (show j < 8 by omega) (by omega) (mfs_s5 (show j < 8 by omega))) (fun H locs hP hD hS => ?_)
    refine lv_aload_n hx hb dX0_endWeekOf_28 rfl (lv_at hl 0 rfl) ?_
    refine lv_iconst (v := 0) hx hb dX0_endWeekOf_29 (by decide) ?_
    refine z_put (v := .int 0) (ty := .boolean) (ws2 := bkW cI cM ad (upd (upd z (14 + 16 * j + 3) 0) (14 + 16 * j + 4) 0) wr) hx hb hts inTX4 tyX4 tyX4_ok nmX4 hown hK hP hD hS (3 + j) (bk_m (show j < 8 by omega)) rfl 2 (by decide) (hts _ qf_X0_100) (fun _ h9 => h9) rfl (by decide +kernel) (rfl) (rfl) (Nat.le_of_ble_eq_true rfl) dX0_endWeekOf_30 (bk_wm _ (show j < 8 by omega) (by omega) (mfs_s2 (show j < 8 by omega))) (fun H locs hP hD hS => ?_)
    refine lv_aload_n hx hb dX0_endWeekOf_33 rfl (lv_at hl 0 rfl) ?_
    refine va_get (v := .int 0) hx hb hts inTX4 hown hK hP (3 + j) (bk_m (show j < 8 by omega)) rfl 5 (by decide) (hts _ qf_X0_137) (fun _ h9 => h9) (congrArg (fun x => some (Value.int x)) ((upd_ne (by omega)).trans (upd_eq rfl))) dX0_endWeekOf_34 ?_
    refine lv_aload_n hx hb dX0_endWeekOf_37 rfl (lv_at hl 1 rfl) ?_
    refine va_get (v := .ref (ad 2)) hx hb hts inTX0 hown hK hP (0) (bk_0) rfl 1 (by decide) (hts _ qf_X0_18) (fun _ h9 => h9) (rfl) dX0_endWeekOf_38 ?_
    refine lv_iconst (v := 2) hx hb dX0_endWeekOf_41 (by decide) ?_
    refine va_iald hx hb hK hP (2) 0 (bk_2) rfl (vp_in_nI (show 2 < 5 by decide) (by omega)) dX0_endWeekOf_42 ?_
    refine z_top (v2 := .int (z 2)) (congrArg Value.int ((sfn_at rfl (show 2 < 5 by decide)).trans ((upd_ne (by omega)).trans ((upd_ne (by omega)).trans (rfl))))) ?_
    refine lv_icmp_gt (tgt := 48) hx hb dX0_endWeekOf_43 (by decide) (fun c3 => ?_) (fun c3 => ?_)
    · skip
      refine lv_aload_n hx hb dX0_endWeekOf_48 rfl (lv_at hl 0 rfl) ?_
      refine va_get (v := .int (z (14 + 16 * j + 1))) hx hb hts inTX4 hown hK hP (3 + j) (bk_m (show j < 8 by omega)) rfl 3 (by decide) (hts _ qf_X0_55) (fun _ h9 => h9) (congrArg (fun x => some (Value.int x)) ((upd_ne (by omega)).trans ((upd_ne (by omega)).trans (rfl)))) dX0_endWeekOf_49 ?_
      refine lv_aload_n hx hb dX0_endWeekOf_52 rfl (lv_at hl 1 rfl) ?_
      refine va_get (v := .ref (ad 2)) hx hb hts inTX0 hown hK hP (0) (bk_0) rfl 1 (by decide) (hts _ qf_X0_18) (fun _ h9 => h9) (rfl) dX0_endWeekOf_53 ?_
      refine lv_iconst (v := 3) hx hb dX0_endWeekOf_56 (by decide) ?_
      refine va_iald hx hb hK hP (2) 0 (bk_2) rfl (vp_in_nI (show 3 < 5 by decide) (by omega)) dX0_endWeekOf_57 ?_
      refine z_top (v2 := .int (z 3)) (congrArg Value.int ((sfn_at rfl (show 3 < 5 by decide)).trans ((upd_ne (by omega)).trans ((upd_ne (by omega)).trans (rfl))))) ?_
      refine z_callSN1 (rest := []) S (c_X5_decayingPart (z (14 + 16 * j + 1)) (z 3)) hN.2.2.2.2 t_X5_decayingPart ⟨Nat.le_of_ble_eq_true rfl, Nat.le_of_ble_eq_true rfl⟩ rfl rfl hN hK hP hD hS hA rfl hl.1 rfl (Nat.le_of_ble_eq_true rfl) dX0_endWeekOf_58 ⟨Nat.le_of_ble_eq_true rfl, Nat.le_of_ble_eq_true rfl⟩ (fun H locs hP hD hS => ?_)
      refine lv_istore_n (lv' := [(3, .int (decP (z (14 + 16 * j + 1)) (z 3))), (2, .ref (ad (3 + j))), (0, .ref (ad 0)), (1, .int (nI j))]) hx hb dX0_endWeekOf_61 rfl hl (by decide) rfl (fun ls hl => ?_)
      refine lv_aload_n hx hb dX0_endWeekOf_62 rfl (lv_at hl 1 rfl) ?_
      refine lv_dup hx hb dX0_endWeekOf_63 rfl ?_
      refine va_get (v := .int (z (14 + 16 * j + 9))) hx hb hts inTX4 hown hK hP (3 + j) (bk_m (show j < 8 by omega)) rfl 10 (by decide) (hts _ qf_X0_143) (fun _ h9 => h9) (congrArg (fun x => some (Value.int x)) ((upd_ne (by omega)).trans ((upd_ne (by omega)).trans (rfl)))) dX0_endWeekOf_64 ?_
      refine lv_iload_n hx hb dX0_endWeekOf_67 rfl (lv_at hl 0 rfl) ?_
      refine lv_iadd hx hb dX0_endWeekOf_68  ?_
      refine z_put (v := .int ((z (14 + 16 * j + 9)) + (decP (z (14 + 16 * j + 1)) (z 3)))) (ty := .int) (ws2 := bkW cI cM ad (upd (upd (upd z (14 + 16 * j + 3) 0) (14 + 16 * j + 4) 0) (14 + 16 * j + 9) ((z (14 + 16 * j + 9)) + (decP (z (14 + 16 * j + 1)) (z 3)))) wr) hx hb hts inTX4 tyX4 tyX4_ok nmX4 hown hK hP hD hS (3 + j) (bk_m (show j < 8 by omega)) rfl 10 (by decide) (hts _ qf_X0_143) (fun _ h9 => h9) rfl (by decide +kernel) (rfl) (rfl) (Nat.le_of_ble_eq_true rfl) dX0_endWeekOf_69 (bk_wm _ (show j < 8 by omega) (by omega) (mfs_s10 (show j < 8 by omega))) (fun H locs hP hD hS => ?_)
      refine lv_aload_n hx hb dX0_endWeekOf_72 rfl (lv_at hl 2 rfl) ?_
      refine lv_iload_n hx hb dX0_endWeekOf_73 rfl (lv_at hl 3 rfl) ?_
      refine lv_iload_n hx hb dX0_endWeekOf_74 rfl (lv_at hl 0 rfl) ?_
      refine z_callV0 (rest := []) S (c_X0_payToCommon j (show j < 8 by omega) (decP (z (14 + 16 * j + 1)) (z 3)) (z (14 + 16 * j + 1)) (z 6) ((upd_ne (by omega)).trans ((upd_ne (by omega)).trans ((upd_ne (by omega)).trans (rfl)))) ((upd_ne (by omega)).trans ((upd_ne (by omega)).trans ((upd_ne (by omega)).trans (rfl))))) qm_X0_61 v_X0_payToCommon ⟨Nat.le_of_ble_eq_true rfl, Nat.le_of_ble_eq_true rfl⟩ rfl rfl hN hK hP hD hS hA (0) (bk_0) rfl rfl hl.1 rfl (Nat.le_of_ble_eq_true rfl) dX0_endWeekOf_75 ⟨Nat.le_of_ble_eq_true rfl, Nat.le_of_ble_eq_true rfl⟩ (fun H locs hP hD hS => ?_)
      refine lv_aload_n hx hb dX0_endWeekOf_78 rfl (lv_at hl 1 rfl) ?_
      refine lv_aload_n hx hb dX0_endWeekOf_79 rfl (lv_at hl 2 rfl) ?_
      refine va_get (v := .ref (ad 2)) hx hb hts inTX0 hown hK hP (0) (bk_0) rfl 1 (by decide) (hts _ qf_X0_18) (fun _ h9 => h9) (rfl) dX0_endWeekOf_80 ?_
      refine lv_iconst (v := 4) hx hb dX0_endWeekOf_83 (by decide) ?_
      refine va_iald hx hb hK hP (2) 0 (bk_2) rfl (vp_in_nI (show 4 < 5 by decide) (by omega)) dX0_endWeekOf_84 ?_
      refine z_top (v2 := .int (z 4)) (congrArg Value.int ((sfn_at rfl (show 4 < 5 by decide)).trans ((upd_ne (by omega)).trans ((upd_ne (by omega)).trans ((upd_ne (by omega)).trans ((upd_ne (by omega)).trans ((upd_ne (by omega)).trans (rfl)))))))) ?_
      refine z_callV0 (rest := []) S (c_X4_rust j (show j < 8 by omega) (z 4)) qm_X0_146 v_X4_rust ⟨Nat.le_of_ble_eq_true rfl, Nat.le_of_ble_eq_true rfl⟩ rfl rfl hN hK hP hD hS hA (3 + j) (bk_m (show j < 8 by omega)) rfl rfl hl.1 rfl (Nat.le_of_ble_eq_true rfl) dX0_endWeekOf_85 ⟨Nat.le_of_ble_eq_true rfl, Nat.le_of_ble_eq_true rfl⟩ (fun H locs hP hD hS => ?_)
      refine lv_iload_n hx hb dX0_endWeekOf_88 rfl (lv_at hl 0 rfl) ?_
      exact z_iret hx hb hr hlocks hP hD hK hS (by first | rfl | (simp only [ewZ, ewR, idlP, minP, maxP, c1, c3, not_true_eq_false, not_false_eq_true, and_self, and_true, true_and, and_false, false_and, or_true, true_or, or_false, false_or, if_true, if_false, ite_true, ite_false]; done) | (simp [ewZ, ewR, idlP, minP, maxP, c1, c3]; done) | (simp_all [ewZ, ewR, idlP, minP, maxP]; done)) (by first | rfl | (simp only [ewZ, ewR, idlP, minP, maxP, c1, c3, not_true_eq_false, not_false_eq_true, and_self, and_true, true_and, and_false, false_and, or_true, true_or, or_false, false_or, if_true, if_false, ite_true, ite_false]; done) | (simp [ewZ, ewR, idlP, minP, maxP, c1, c3]; done) | (simp_all [ewZ, ewR, idlP, minP, maxP]; done)) dX0_endWeekOf_89
    · skip
      refine lv_iconst (v := 0) hx hb dX0_endWeekOf_46 (by decide) ?_
      exact z_iret hx hb hr hlocks hP hD hK hS (by first | rfl | (simp only [ewZ, ewR, idlP, minP, maxP, c1, c3, not_true_eq_false, not_false_eq_true, and_self, and_true, true_and, and_false, false_and, or_true, true_or, or_false, false_or, if_true, if_false, ite_true, ite_false]; done) | (simp [ewZ, ewR, idlP, minP, maxP, c1, c3]; done) | (simp_all [ewZ, ewR, idlP, minP, maxP]; done)) (by first | rfl | (simp only [ewZ, ewR, idlP, minP, maxP, c1, c3, not_true_eq_false, not_false_eq_true, and_self, and_true, true_and, and_false, false_and, or_true, true_or, or_false, false_or, if_true, if_false, ite_true, ite_false]; done) | (simp [ewZ, ewR, idlP, minP, maxP, c1, c3]; done) | (simp_all [ewZ, ewR, idlP, minP, maxP]; done)) dX0_endWeekOf_47
set_option maxHeartbeats 4000000 in
set_option maxRecDepth 100000 in
theorem c_X0_endWeek {n : Nat} (hn : n ≤ 8) (hz : z 5 = nI n) : zM l D (zT cI cC cM cB cJ) yX0_endWeek cX0_endWeek 3 (some .int) ({ frames := 3, cells := 0, slots := 0, locals := 66 } : Room) [.ref (ad 0)] (bkW cI cM ad z wr) (bkW cI cM ad (wkZ z n) wr) (some (.int (wkR z n))) 0 0 := by
  refine z_enter (by decide) (Nat.le_of_ble_eq_true rfl) ?_
  intro p e s m below meth c A S hr hlocks hnm hN hA hK hP hD hS ls hl
  obtain ⟨hx, hb, hml, hown, hts⟩ := id S
  have hl : lv_has ls 3 [(0, .ref (ad 0))] := hl
  have hP : va_P D vwCl (bkW cI cM ad z wr) s.heap := hP
  have hD : va_D A (bkW cI cM ad z wr) := hD
  refine lv_aload_n hx hb dX0_endWeek_0 rfl (lv_at hl 0 rfl) ?_
  refine lv_dup hx hb dX0_endWeek_1 rfl ?_
  refine va_get (v := .int (z 8)) hx hb hts inTX0 hown hK hP (0) (bk_0) rfl 5 (by decide) (hts _ qf_X0_42) (fun _ h9 => h9) (rfl) dX0_endWeek_2 ?_
  refine lv_iconst (v := 1) hx hb dX0_endWeek_5 (by decide) ?_
  refine lv_iadd hx hb dX0_endWeek_6  ?_
  refine z_put (v := .int ((z 8) + 1)) (ty := .int) (ws2 := bkW cI cM ad (upd z 8 ((z 8) + 1)) wr) hx hb hts inTX0 tyX0 tyX0_ok nmX0 hown hK hP hD hS (0) (bk_0) rfl 5 (by decide) (hts _ qf_X0_42) (fun _ h9 => h9) rfl (by decide +kernel) (rfl) (rfl) (Nat.le_of_ble_eq_true rfl) dX0_endWeek_7 (bk_w0 _ (by decide) (by decide) bfs_s5) (fun H locs hP hD hS => ?_)
  refine lv_iconst (v := 0) hx hb dX0_endWeek_10 (by decide) ?_
  refine lv_istore_n (lv' := [(1, .int 0), (0, .ref (ad 0))]) hx hb dX0_endWeek_11 rfl hl (by decide) rfl (fun ls hl => ?_)
  refine lv_iconst (v := 0) hx hb dX0_endWeek_12 (by decide) ?_
  refine lv_istore_n (lv' := [(2, .int 0), (1, .int 0), (0, .ref (ad 0))]) hx hb dX0_endWeek_13 rfl hl (by decide) rfl (fun ls hl => ?_)
  have K14 : ∀ (n14 i : Nat), i + n14 = n → ∀ (H : Heap) (locs : List Loc), va_P D vwCl (bkW cI cM ad (ewkZ (upd z 8 (z 8 + 1)) i) wr) H → va_D A (bkW cI cM ad (ewkZ (upd z 8 (z 8 + 1)) i) wr) → va_S A s.heap H locs → ∀ ls : Array Slot, lv_has ls 3 [(0, .ref (ad 0)), (1, .int (ewkR (upd z 8 (z 8 + 1)) i)), (2, .int (nI i))] → W p l e ({ frames := 3, cells := 0, slots := 0, locals := 66 } : Room) s m ([.ref (ad 0)] : List Value).toArray below meth c H locs 0 0 (MQ below (zQ D (zT cI cC cM cB cJ) (bkW cI cM ad (wkZ z n) wr) (some (.int (wkR z n))) A) ([.ref (ad 0)] : List Value).toArray s 0 0 A) (F0 m 14 ls []) := by
    intro n14
    induction n14 with
    | zero =>
      intro i h_i H locs hP hD hS ls hl
      have ei : n = i := by omega
      subst ei
      refine lv_iload_n hx hb dX0_endWeek_14 rfl (lv_at hl 2 rfl) ?_
      refine lv_aload_n hx hb dX0_endWeek_15 rfl (lv_at hl 0 rfl) ?_
      refine va_get (v := .int (nI n)) hx hb hts inTX0 hown hK hP (0) (bk_0) rfl 2 (by decide) (hts _ qf_X0_33) (fun _ h9 => h9) (congrArg (fun x => some (Value.int x)) ((ewkZ_at _ (by omega) (by omega)).trans ((upd_ne (by decide)).trans hz))) dX0_endWeek_16 ?_
      refine lv_icmp_ge (tgt := 48) hx hb dX0_endWeek_19 (by decide) (fun c1 => ?_) (fun c1 => absurd (nI_le (a := n) (b := n) (by omega) (by omega)) c1)
      have c1 := z_nlt c1
      refine lv_iload_n hx hb dX0_endWeek_48 rfl (lv_at hl 1 rfl) ?_
      exact z_iret hx hb hr hlocks hP hD hK hS (by first | rfl | (simp only [wkZ, wkR, minP, maxP, c1, not_true_eq_false, not_false_eq_true, and_self, and_true, true_and, and_false, false_and, or_true, true_or, or_false, false_or, if_true, if_false, ite_true, ite_false]; done) | (simp [wkZ, wkR, minP, maxP, c1]; done) | (simp_all [wkZ, wkR, minP, maxP]; done)) (by first | rfl | (simp only [wkZ, wkR, minP, maxP, c1, not_true_eq_false, not_false_eq_true, and_self, and_true, true_and, and_false, false_and, or_true, true_or, or_false, false_or, if_true, if_false, ite_true, ite_false]; done) | (simp [wkZ, wkR, minP, maxP, c1]; done) | (simp_all [wkZ, wkR, minP, maxP]; done)) dX0_endWeek_49
    | succ n14 ih14 =>
      intro i h_i H locs hP hD hS ls hl
      have li : i < n := by omega
      refine lv_iload_n hx hb dX0_endWeek_14 rfl (lv_at hl 2 rfl) ?_
      refine lv_aload_n hx hb dX0_endWeek_15 rfl (lv_at hl 0 rfl) ?_
      refine va_get (v := .int (nI n)) hx hb hts inTX0 hown hK hP (0) (bk_0) rfl 2 (by decide) (hts _ qf_X0_33) (fun _ h9 => h9) (congrArg (fun x => some (Value.int x)) ((ewkZ_at _ (by omega) (by omega)).trans ((upd_ne (by decide)).trans hz))) dX0_endWeek_16 ?_
      refine lv_icmp_ge (tgt := 48) hx hb dX0_endWeek_19 (by decide) (fun c2 => absurd c2 (nI_ge (a := i) (b := n) (by omega) (by omega))) (fun c2 => ?_)
      have c2 := z_lt c2
      refine lv_aload_n hx hb dX0_endWeek_22 rfl (lv_at hl 0 rfl) ?_
      refine va_get (v := .ref (ad 1)) hx hb hts inTX0 hown hK hP (0) (bk_0) rfl 0 (by decide) (hts _ qf_X0_11) (fun _ h9 => h9) (rfl) dX0_endWeek_23 ?_
      refine lv_iload_n hx hb dX0_endWeek_26 rfl (lv_at hl 2 rfl) ?_
      refine va_aldq hx hb hK hP (1) 2 (bk_1) rfl (vp_in_nI (show i < 8 by omega) (by omega)) dX0_endWeek_27 ?_
      refine z_top (v2 := .ref (ad (3 + i))) (z_rf rfl) ?_
      refine va_get (v := .int (ewkZ (upd z 8 (z 8 + 1)) i (14 + 16 * i))) hx hb hts inTX4 hown hK hP (3 + i) (bk_m (show i < 8 by omega)) rfl 1 (by decide) (hts _ qf_X0_51) (fun _ h9 => h9) (rfl) dX0_endWeek_28 ?_
      refine lv_if_eq (tgt := 42) hx hb dX0_endWeek_31 (by decide) (fun c3 => ?_) (fun c3 => ?_)
      · skip
        refine lv_iinc (v := nI (i + 1)) (lv' := [(2, .int (nI (i + 1))), (0, .ref (ad 0)), (1, .int (ewkR (upd z 8 (z 8 + 1)) i))]) hx hb dX0_endWeek_42 hl (k := 2) rfl (nI_1 _) (by decide) rfl (fun ls hl => ?_)
        refine lv_goto (tgt := 14) hx hb dX0_endWeek_45 (by decide) ?_
        have hl := (congrArg (fun qv_ => lv_has ls 3 [(2, .int (nI (i + 1))), (0, .ref (ad 0)), (1, qv_)]) (show Value.int (ewkR (upd z 8 (z 8 + 1)) i) = .int (ewkR (upd z 8 (z 8 + 1)) (i + 1)) from congrArg Value.int (by first | rfl | (simp only [ewkR, ewkZ, c2, c3, not_true_eq_false, not_false_eq_true, and_self, and_true, true_and, and_false, false_and, or_true, true_or, or_false, false_or, if_true, if_false, ite_true, ite_false]; done) | (simp [ewkR, ewkZ, c2, c3]; done)))).mp hl
        have hP := va_P_eq (w2 := bkW cI cM ad (ewkZ (upd z 8 (z 8 + 1)) (i + 1)) wr) (by first | rfl | (simp only [ewkR, ewkZ, c2, c3, not_true_eq_false, not_false_eq_true, and_self, and_true, true_and, and_false, false_and, or_true, true_or, or_false, false_or, if_true, if_false, ite_true, ite_false]; done) | (simp [ewkR, ewkZ, c2, c3]; done)) hP
        have hD := va_D_eq (w2 := bkW cI cM ad (ewkZ (upd z 8 (z 8 + 1)) (i + 1)) wr) (by first | rfl | (simp only [ewkR, ewkZ, c2, c3, not_true_eq_false, not_false_eq_true, and_self, and_true, true_and, and_false, false_and, or_true, true_or, or_false, false_or, if_true, if_false, ite_true, ite_false]; done) | (simp [ewkR, ewkZ, c2, c3]; done)) hD
        exact ih14 (i + 1) (by omega) _ _ hP hD hS ls (lv_sub hl [1, 2, 0] rfl)
      · skip
        refine lv_iload_n hx hb dX0_endWeek_34 rfl (lv_at hl 1 rfl) ?_
        refine lv_aload_n hx hb dX0_endWeek_35 rfl (lv_at hl 0 rfl) ?_
        refine lv_iload_n hx hb dX0_endWeek_36 rfl (lv_at hl 2 rfl) ?_
        refine z_callV1 (rest := [.int (ewkR (upd z 8 (z 8 + 1)) i)]) S (c_X0_endWeekOf i (show i < 8 by omega)) qm_X0_134 v_X0_endWeekOf ⟨Nat.le_of_ble_eq_true rfl, Nat.le_of_ble_eq_true rfl⟩ rfl rfl hN hK hP hD hS hA (0) (bk_0) rfl rfl hl.1 rfl (Nat.le_of_ble_eq_true rfl) dX0_endWeek_37 ⟨Nat.le_of_ble_eq_true rfl, Nat.le_of_ble_eq_true rfl⟩ (fun H locs hP hD hS => ?_)
        refine lv_iadd hx hb dX0_endWeek_40  ?_
        refine lv_istore_n (lv' := [(1, .int ((ewkR (upd z 8 (z 8 + 1)) i) + (ewR (ewkZ (upd z 8 (z 8 + 1)) i) i))), (0, .ref (ad 0)), (2, .int (nI i))]) hx hb dX0_endWeek_41 rfl hl (by decide) rfl (fun ls hl => ?_)
        refine lv_iinc (v := nI (i + 1)) (lv' := [(2, .int (nI (i + 1))), (1, .int ((ewkR (upd z 8 (z 8 + 1)) i) + (ewR (ewkZ (upd z 8 (z 8 + 1)) i) i))), (0, .ref (ad 0))]) hx hb dX0_endWeek_42 hl (k := 2) rfl (nI_1 _) (by decide) rfl (fun ls hl => ?_)
        refine lv_goto (tgt := 14) hx hb dX0_endWeek_45 (by decide) ?_
        have hl := (congrArg (fun qv_ => lv_has ls 3 [(2, .int (nI (i + 1))), (1, qv_), (0, .ref (ad 0))]) (show Value.int ((ewkR (upd z 8 (z 8 + 1)) i) + (ewR (ewkZ (upd z 8 (z 8 + 1)) i) i)) = .int (ewkR (upd z 8 (z 8 + 1)) (i + 1)) from congrArg Value.int (by first | rfl | (simp only [ewkR, ewkZ, c2, c3, not_true_eq_false, not_false_eq_true, and_self, and_true, true_and, and_false, false_and, or_true, true_or, or_false, false_or, if_true, if_false, ite_true, ite_false]; done) | (simp [ewkR, ewkZ, c2, c3]; done)))).mp hl
        have hP := va_P_eq (w2 := bkW cI cM ad (ewkZ (upd z 8 (z 8 + 1)) (i + 1)) wr) (by first | rfl | (simp only [ewkR, ewkZ, c2, c3, not_true_eq_false, not_false_eq_true, and_self, and_true, true_and, and_false, false_and, or_true, true_or, or_false, false_or, if_true, if_false, ite_true, ite_false]; done) | (simp [ewkR, ewkZ, c2, c3]; done)) hP
        have hD := va_D_eq (w2 := bkW cI cM ad (ewkZ (upd z 8 (z 8 + 1)) (i + 1)) wr) (by first | rfl | (simp only [ewkR, ewkZ, c2, c3, not_true_eq_false, not_false_eq_true, and_self, and_true, true_and, and_false, false_and, or_true, true_or, or_false, false_or, if_true, if_false, ite_true, ite_false]; done) | (simp [ewkR, ewkZ, c2, c3]; done)) hD
        exact ih14 (i + 1) (by omega) _ _ hP hD hS ls (lv_sub hl [2, 1, 0] rfl)
  have hl := (congrArg (fun qv_ => lv_has ls 3 [(2, .int 0), (1, qv_), (0, .ref (ad 0))]) (show Value.int 0 = .int (ewkR (upd z 8 (z 8 + 1)) 0) from congrArg Value.int (by rfl))).mp hl
  have hl := (congrArg (fun qv_ => lv_has ls 3 [(2, qv_), (1, .int (ewkR (upd z 8 (z 8 + 1)) 0)), (0, .ref (ad 0))]) (show Value.int 0 = .int (nI 0) from congrArg Value.int (by rfl))).mp hl
  have hP := va_P_eq (w2 := bkW cI cM ad (ewkZ (upd z 8 (z 8 + 1)) 0) wr) (rfl) hP
  have hD := va_D_eq (w2 := bkW cI cM ad (ewkZ (upd z 8 (z 8 + 1)) 0) wr) (rfl) hD
  exact K14 n 0 (by omega) _ _ hP hD hS ls (lv_sub hl [2, 1, 0] rfl)
set_option maxHeartbeats 4000000 in
set_option maxRecDepth 100000 in
theorem c_X0_memberProperty (j : Nat) (hj : j < 8) (x : Int32) : zM l D (zT cI cC cM cB cJ) yX0_memberProperty cX0_memberProperty 4 (some .int) ({ frames := 2, cells := 0, slots := 0, locals := 41 } : Room) [.ref (ad 0), .int (nI j), .int x] (bkW cI cM ad z wr) (bkW cI cM ad z wr) (some (.int (prpP z j x))) 0 0 := by
  refine z_enter (by decide) (Nat.le_of_ble_eq_true rfl) ?_
  intro p e s m below meth c A S hr hlocks hnm hN hA hK hP hD hS ls hl
  obtain ⟨hx, hb, hml, hown, hts⟩ := id S
  have hl : lv_has ls 4 [(0, .ref (ad 0)), (1, .int (nI j)), (2, .int x)] := hl
  have hP : va_P D vwCl (bkW cI cM ad z wr) s.heap := hP
  have hD : va_D A (bkW cI cM ad z wr) := hD
  refine lv_aload_n hx hb dX0_memberProperty_0 rfl (lv_at hl 0 rfl) ?_
  refine va_get (v := .ref (ad 1)) hx hb hts inTX0 hown hK hP (0) (bk_0) rfl 0 (by decide) (hts _ qf_X0_11) (fun _ h9 => h9) (rfl) dX0_memberProperty_1 ?_
  refine lv_iload_n hx hb dX0_memberProperty_4 rfl (lv_at hl 1 rfl) ?_
  refine va_aldq hx hb hK hP (1) 2 (bk_1) rfl (vp_in_nI (show j < 8 by omega) (by omega)) dX0_memberProperty_5 ?_
  refine z_top (v2 := .ref (ad (3 + j))) (z_rf rfl) ?_
  refine lv_astore_n (lv' := [(3, .ref (ad (3 + j))), (0, .ref (ad 0)), (1, .int (nI j)), (2, .int x)]) hx hb dX0_memberProperty_6 rfl hl (by decide) rfl (fun ls hl => ?_)
  refine lv_iload_n hx hb dX0_memberProperty_7 rfl (lv_at hl 3 rfl) ?_
  rcases z_cases10 x with c1 | c1 | c1 | c1 | c1 | c1 | c1 | c1 | c1 | c1 | c1 | c1
  · refine lv_tableIn (tgt := 68) (off := 60) hx hb dX0_memberProperty_8 (by rw [c1]; decide) (by rw [c1]; decide) (by rw [c1]; decide) (by decide) ?_
    refine lv_aload_n hx hb dX0_memberProperty_68 rfl (lv_at hl 0 rfl) ?_
    refine va_get (v := .int (z (14 + 16 * j))) hx hb hts inTX4 hown hK hP (3 + j) (bk_m (show j < 8 by omega)) rfl 1 (by decide) (hts _ qf_X0_51) (fun _ h9 => h9) (rfl) dX0_memberProperty_69 ?_
    refine lv_if_eq (tgt := 79) hx hb dX0_memberProperty_72 (by decide) (fun c2 => ?_) (fun c2 => ?_)
    · skip
      refine lv_iconst (v := 0) hx hb dX0_memberProperty_79 (by decide) ?_
      exact z_iret hx hb hr hlocks hP hD hK hS (rfl) (by first | rfl | (simp only [prpP, bI, minP, maxP, c1, c2, not_true_eq_false, not_false_eq_true, and_self, and_true, true_and, and_false, false_and, or_true, true_or, or_false, false_or, if_true, if_false, ite_true, ite_false]; done) | (simp [prpP, bI, minP, maxP, c1, c2]; done) | (simp_all [prpP, bI, minP, maxP]; done)) dX0_memberProperty_80
    · skip
      refine lv_iconst (v := 1) hx hb dX0_memberProperty_75 (by decide) ?_
      refine lv_goto (tgt := 80) hx hb dX0_memberProperty_76 (by decide) ?_
      exact z_iret hx hb hr hlocks hP hD hK hS (rfl) (by first | rfl | (simp only [prpP, bI, minP, maxP, c1, c2, not_true_eq_false, not_false_eq_true, and_self, and_true, true_and, and_false, false_and, or_true, true_or, or_false, false_or, if_true, if_false, ite_true, ite_false]; done) | (simp [prpP, bI, minP, maxP, c1, c2]; done) | (simp_all [prpP, bI, minP, maxP]; done)) dX0_memberProperty_80
  · refine lv_tableIn (tgt := 81) (off := 73) hx hb dX0_memberProperty_8 (by rw [c1]; decide) (by rw [c1]; decide) (by rw [c1]; decide) (by decide) ?_
    refine lv_aload_n hx hb dX0_memberProperty_81 rfl (lv_at hl 0 rfl) ?_
    refine va_get (v := .int (z (14 + 16 * j + 1))) hx hb hts inTX4 hown hK hP (3 + j) (bk_m (show j < 8 by omega)) rfl 3 (by decide) (hts _ qf_X0_55) (fun _ h9 => h9) (rfl) dX0_memberProperty_82 ?_
    exact z_iret hx hb hr hlocks hP hD hK hS (rfl) (by first | rfl | (simp only [prpP, bI, minP, maxP, c1, not_true_eq_false, not_false_eq_true, and_self, and_true, true_and, and_false, false_and, or_true, true_or, or_false, false_or, if_true, if_false, ite_true, ite_false]; done) | (simp [prpP, bI, minP, maxP, c1]; done) | (simp_all [prpP, bI, minP, maxP]; done)) dX0_memberProperty_85
  · refine lv_tableIn (tgt := 86) (off := 78) hx hb dX0_memberProperty_8 (by rw [c1]; decide) (by rw [c1]; decide) (by rw [c1]; decide) (by decide) ?_
    refine lv_aload_n hx hb dX0_memberProperty_86 rfl (lv_at hl 0 rfl) ?_
    refine va_get (v := .int (z (14 + 16 * j + 2))) hx hb hts inTX4 hown hK hP (3 + j) (bk_m (show j < 8 by omega)) rfl 4 (by decide) (hts _ qf_X0_58) (fun _ h9 => h9) (rfl) dX0_memberProperty_87 ?_
    exact z_iret hx hb hr hlocks hP hD hK hS (rfl) (by first | rfl | (simp only [prpP, bI, minP, maxP, c1, not_true_eq_false, not_false_eq_true, and_self, and_true, true_and, and_false, false_and, or_true, true_or, or_false, false_or, if_true, if_false, ite_true, ite_false]; done) | (simp [prpP, bI, minP, maxP, c1]; done) | (simp_all [prpP, bI, minP, maxP]; done)) dX0_memberProperty_90
  · refine lv_tableIn (tgt := 91) (off := 83) hx hb dX0_memberProperty_8 (by rw [c1]; decide) (by rw [c1]; decide) (by rw [c1]; decide) (by decide) ?_
    refine lv_aload_n hx hb dX0_memberProperty_91 rfl (lv_at hl 0 rfl) ?_
    refine va_get (v := .int (z (14 + 16 * j + 3))) hx hb hts inTX4 hown hK hP (3 + j) (bk_m (show j < 8 by omega)) rfl 5 (by decide) (hts _ qf_X0_137) (fun _ h9 => h9) (rfl) dX0_memberProperty_92 ?_
    exact z_iret hx hb hr hlocks hP hD hK hS (rfl) (by first | rfl | (simp only [prpP, bI, minP, maxP, c1, not_true_eq_false, not_false_eq_true, and_self, and_true, true_and, and_false, false_and, or_true, true_or, or_false, false_or, if_true, if_false, ite_true, ite_false]; done) | (simp [prpP, bI, minP, maxP, c1]; done) | (simp_all [prpP, bI, minP, maxP]; done)) dX0_memberProperty_95
  · refine lv_tableIn (tgt := 96) (off := 88) hx hb dX0_memberProperty_8 (by rw [c1]; decide) (by rw [c1]; decide) (by rw [c1]; decide) (by decide) ?_
    refine lv_aload_n hx hb dX0_memberProperty_96 rfl (lv_at hl 0 rfl) ?_
    refine va_get (v := .int (z (14 + 16 * j + 4))) hx hb hts inTX4 hown hK hP (3 + j) (bk_m (show j < 8 by omega)) rfl 2 (by decide) (hts _ qf_X0_100) (fun _ h9 => h9) (rfl) dX0_memberProperty_97 ?_
    refine lv_if_eq (tgt := 107) hx hb dX0_memberProperty_100 (by decide) (fun c3 => ?_) (fun c3 => ?_)
    · skip
      refine lv_iconst (v := 0) hx hb dX0_memberProperty_107 (by decide) ?_
      exact z_iret hx hb hr hlocks hP hD hK hS (rfl) (by first | rfl | (simp only [prpP, bI, minP, maxP, c1, c3, not_true_eq_false, not_false_eq_true, and_self, and_true, true_and, and_false, false_and, or_true, true_or, or_false, false_or, if_true, if_false, ite_true, ite_false]; done) | (simp [prpP, bI, minP, maxP, c1, c3]; done) | (simp_all [prpP, bI, minP, maxP]; done)) dX0_memberProperty_108
    · skip
      refine lv_iconst (v := 1) hx hb dX0_memberProperty_103 (by decide) ?_
      refine lv_goto (tgt := 108) hx hb dX0_memberProperty_104 (by decide) ?_
      exact z_iret hx hb hr hlocks hP hD hK hS (rfl) (by first | rfl | (simp only [prpP, bI, minP, maxP, c1, c3, not_true_eq_false, not_false_eq_true, and_self, and_true, true_and, and_false, false_and, or_true, true_or, or_false, false_or, if_true, if_false, ite_true, ite_false]; done) | (simp [prpP, bI, minP, maxP, c1, c3]; done) | (simp_all [prpP, bI, minP, maxP]; done)) dX0_memberProperty_108
  · refine lv_tableIn (tgt := 109) (off := 101) hx hb dX0_memberProperty_8 (by rw [c1]; decide) (by rw [c1]; decide) (by rw [c1]; decide) (by decide) ?_
    refine lv_aload_n hx hb dX0_memberProperty_109 rfl (lv_at hl 0 rfl) ?_
    refine va_get (v := .int (z (14 + 16 * j + 5))) hx hb hts inTX4 hown hK hP (3 + j) (bk_m (show j < 8 by omega)) rfl 6 (by decide) (hts _ qf_X0_106) (fun _ h9 => h9) (rfl) dX0_memberProperty_110 ?_
    exact z_iret hx hb hr hlocks hP hD hK hS (rfl) (by first | rfl | (simp only [prpP, bI, minP, maxP, c1, not_true_eq_false, not_false_eq_true, and_self, and_true, true_and, and_false, false_and, or_true, true_or, or_false, false_or, if_true, if_false, ite_true, ite_false]; done) | (simp [prpP, bI, minP, maxP, c1]; done) | (simp_all [prpP, bI, minP, maxP]; done)) dX0_memberProperty_113
  · refine lv_tableIn (tgt := 114) (off := 106) hx hb dX0_memberProperty_8 (by rw [c1]; decide) (by rw [c1]; decide) (by rw [c1]; decide) (by decide) ?_
    refine lv_aload_n hx hb dX0_memberProperty_114 rfl (lv_at hl 0 rfl) ?_
    refine va_get (v := .int (z (14 + 16 * j + 6))) hx hb hts inTX4 hown hK hP (3 + j) (bk_m (show j < 8 by omega)) rfl 7 (by decide) (hts _ qf_X0_97) (fun _ h9 => h9) (rfl) dX0_memberProperty_115 ?_
    exact z_iret hx hb hr hlocks hP hD hK hS (rfl) (by first | rfl | (simp only [prpP, bI, minP, maxP, c1, not_true_eq_false, not_false_eq_true, and_self, and_true, true_and, and_false, false_and, or_true, true_or, or_false, false_or, if_true, if_false, ite_true, ite_false]; done) | (simp [prpP, bI, minP, maxP, c1]; done) | (simp_all [prpP, bI, minP, maxP]; done)) dX0_memberProperty_118
  · refine lv_tableIn (tgt := 119) (off := 111) hx hb dX0_memberProperty_8 (by rw [c1]; decide) (by rw [c1]; decide) (by rw [c1]; decide) (by decide) ?_
    refine lv_aload_n hx hb dX0_memberProperty_119 rfl (lv_at hl 0 rfl) ?_
    refine va_get (v := .int (z (14 + 16 * j + 7))) hx hb hts inTX4 hown hK hP (3 + j) (bk_m (show j < 8 by omega)) rfl 8 (by decide) (hts _ qf_X0_103) (fun _ h9 => h9) (rfl) dX0_memberProperty_120 ?_
    exact z_iret hx hb hr hlocks hP hD hK hS (rfl) (by first | rfl | (simp only [prpP, bI, minP, maxP, c1, not_true_eq_false, not_false_eq_true, and_self, and_true, true_and, and_false, false_and, or_true, true_or, or_false, false_or, if_true, if_false, ite_true, ite_false]; done) | (simp [prpP, bI, minP, maxP, c1]; done) | (simp_all [prpP, bI, minP, maxP]; done)) dX0_memberProperty_123
  · refine lv_tableIn (tgt := 124) (off := 116) hx hb dX0_memberProperty_8 (by rw [c1]; decide) (by rw [c1]; decide) (by rw [c1]; decide) (by decide) ?_
    refine lv_aload_n hx hb dX0_memberProperty_124 rfl (lv_at hl 0 rfl) ?_
    refine va_get (v := .int (z (14 + 16 * j + 8))) hx hb hts inTX4 hown hK hP (3 + j) (bk_m (show j < 8 by omega)) rfl 9 (by decide) (hts _ qf_X0_94) (fun _ h9 => h9) (rfl) dX0_memberProperty_125 ?_
    exact z_iret hx hb hr hlocks hP hD hK hS (rfl) (by first | rfl | (simp only [prpP, bI, minP, maxP, c1, not_true_eq_false, not_false_eq_true, and_self, and_true, true_and, and_false, false_and, or_true, true_or, or_false, false_or, if_true, if_false, ite_true, ite_false]; done) | (simp [prpP, bI, minP, maxP, c1]; done) | (simp_all [prpP, bI, minP, maxP]; done)) dX0_memberProperty_128
  · refine lv_tableIn (tgt := 129) (off := 121) hx hb dX0_memberProperty_8 (by rw [c1]; decide) (by rw [c1]; decide) (by rw [c1]; decide) (by decide) ?_
    refine lv_aload_n hx hb dX0_memberProperty_129 rfl (lv_at hl 0 rfl) ?_
    refine va_get (v := .int (z (14 + 16 * j + 9))) hx hb hts inTX4 hown hK hP (3 + j) (bk_m (show j < 8 by omega)) rfl 10 (by decide) (hts _ qf_X0_143) (fun _ h9 => h9) (rfl) dX0_memberProperty_130 ?_
    exact z_iret hx hb hr hlocks hP hD hK hS (rfl) (by first | rfl | (simp only [prpP, bI, minP, maxP, c1, not_true_eq_false, not_false_eq_true, and_self, and_true, true_and, and_false, false_and, or_true, true_or, or_false, false_or, if_true, if_false, ite_true, ite_false]; done) | (simp [prpP, bI, minP, maxP, c1]; done) | (simp_all [prpP, bI, minP, maxP]; done)) dX0_memberProperty_133
  · refine lv_tableIn (tgt := 134) (off := 126) hx hb dX0_memberProperty_8 (by rw [c1]; decide) (by rw [c1]; decide) (by rw [c1]; decide) (by decide) ?_
    refine lv_aload_n hx hb dX0_memberProperty_134 rfl (lv_at hl 0 rfl) ?_
    refine va_get (v := .int (z (14 + 16 * j + 10))) hx hb hts inTX4 hown hK hP (3 + j) (bk_m (show j < 8 by omega)) rfl 11 (by decide) (hts _ qf_X0_162) (fun _ h9 => h9) (rfl) dX0_memberProperty_135 ?_
    exact z_iret hx hb hr hlocks hP hD hK hS (rfl) (by first | rfl | (simp only [prpP, bI, minP, maxP, c1, not_true_eq_false, not_false_eq_true, and_self, and_true, true_and, and_false, false_and, or_true, true_or, or_false, false_or, if_true, if_false, ite_true, ite_false]; done) | (simp [prpP, bI, minP, maxP, c1]; done) | (simp_all [prpP, bI, minP, maxP]; done)) dX0_memberProperty_138
  · refine lv_tableOut (tgt := 139) hx hb dX0_memberProperty_8 c1 (by decide) ?_
    refine lv_aload_n hx hb dX0_memberProperty_139 rfl (lv_at hl 1 rfl) ?_
    refine lv_iload_n hx hb dX0_memberProperty_140 rfl (lv_at hl 2 rfl) ?_
    refine z_callV1 (rest := []) S (c_X0_canVote j (show j < 8 by omega)) qm_X0_166 v_X0_canVote ⟨Nat.le_of_ble_eq_true rfl, Nat.le_of_ble_eq_true rfl⟩ rfl rfl hN hK hP hD hS hA (0) (bk_0) rfl rfl hl.1 rfl (Nat.le_of_ble_eq_true rfl) dX0_memberProperty_141 ⟨Nat.le_of_ble_eq_true rfl, Nat.le_of_ble_eq_true rfl⟩ (fun H locs hP hD hS => ?_)
    refine lv_if_eq (tgt := 151) hx hb dX0_memberProperty_144 (by decide) (fun c4 => ?_) (fun c4 => ?_)
    · have c4 := bI_0 c4
      refine lv_iconst (v := 0) hx hb dX0_memberProperty_151 (by decide) ?_
      exact z_iret hx hb hr hlocks hP hD hK hS (rfl) (by first | rfl | (simp only [prpP, bI, minP, maxP, z_out10 c1, c4, not_true_eq_false, not_false_eq_true, and_self, and_true, true_and, and_false, false_and, or_true, true_or, or_false, false_or, if_true, if_false, ite_true, ite_false]; done) | (simp [prpP, bI, minP, maxP, z_out10 c1, c4]; done) | (simp_all [prpP, bI, minP, maxP]; done)) dX0_memberProperty_152
    · have c4 := bI_1 c4
      refine lv_iconst (v := 1) hx hb dX0_memberProperty_147 (by decide) ?_
      refine lv_goto (tgt := 152) hx hb dX0_memberProperty_148 (by decide) ?_
      exact z_iret hx hb hr hlocks hP hD hK hS (rfl) (by first | rfl | (simp only [prpP, bI, minP, maxP, z_out10 c1, c4, not_true_eq_false, not_false_eq_true, and_self, and_true, true_and, and_false, false_and, or_true, true_or, or_false, false_or, if_true, if_false, ite_true, ite_false]; done) | (simp [prpP, bI, minP, maxP, z_out10 c1, c4]; done) | (simp_all [prpP, bI, minP, maxP]; done)) dX0_memberProperty_152
end XB
