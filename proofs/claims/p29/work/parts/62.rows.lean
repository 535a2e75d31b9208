/-! The law's two rows, n (15 numbers) and me (64), on the ONE row z of numbers: n[5] is the count of saved states kl, me[k] is z (14 + k). -/
def nfn (z : Nat → Int32) (kl : Nat) : Nat → Int32
  | 0 => z 5
  | 1 => z 6
  | 2 => z 7
  | 3 => z 8
  | 4 => z 9
  | 5 => nI kl
  | 6 => z 0
  | 7 => z 1
  | 8 => z 2
  | 9 => z 3
  | 10 => z 4
  | 11 => z 10
  | 12 => z 11
  | 13 => z 12
  | 14 => z 13
  | _ => 0
def mfn (z : Nat → Int32) : Nat → Int32 := fun k => if k < 64 then z (14 + k) else 0
abbrev lwS (cI : ClassId) (na ma : Nat) (z : Nat → Int32) (kl : Nat) (wr : va_W) : va_W := (na, .inl (cI, 15, .inl (nfn z kl))) :: (ma, .inl (cI, 64, .inl (mfn z))) :: wr
section LW
variable {cI cC cM cB : ClassId} {ad t h : Nat → Nat} {ah : Nat → Nat → Nat} {zh : Nat → Nat → Int32} {x na ma : Nat} {sg r : Nat → Int32} {sz nx kp : Int32} {z z2 : Nat → Int32} {wr : va_W} {k q kl : Nat} {i v : Int32}
theorem nfn_congr (h : ∀ q, q < 14 → z q = z2 q) : nfn z kl = nfn z2 kl := by
  funext k
  match k with
  | 0 => exact h 5 (by omega)
  | 1 => exact h 6 (by omega)
  | 2 => exact h 7 (by omega)
  | 3 => exact h 8 (by omega)
  | 4 => exact h 9 (by omega)
  | 5 => rfl
  | 6 => exact h 0 (by omega)
  | 7 => exact h 1 (by omega)
  | 8 => exact h 2 (by omega)
  | 9 => exact h 3 (by omega)
  | 10 => exact h 4 (by omega)
  | 11 => exact h 10 (by omega)
  | 12 => exact h 11 (by omega)
  | 13 => exact h 12 (by omega)
  | 14 => exact h 13 (by omega)
  | k + 15 => rfl
theorem mfn_congr (h : ∀ q, 14 ≤ q → q < 78 → z q = z2 q) : mfn z = mfn z2 := by
  funext k
  unfold mfn
  split
  · exact h _ (by omega) (by omega)
  · rfl
/-- the law's rows read z at 0 .. 77 alone -/
theorem lwS_congr (h : ∀ q, q < 78 → z q = z2 q) : lwS cI na ma z kl wr = lwS cI na ma z2 kl wr := by
  unfold lwS
  rw [nfn_congr (fun q hq => h q (by omega)), mfn_congr (fun q _ hq => h q hq)]
theorem lw_0 : (lwS cI na ma z kl wr)[0]? = some (na, .inl (cI, 15, .inl (nfn z kl))) := rfl
theorem lw_1 : (lwS cI na ma z kl wr)[1]? = some (ma, .inl (cI, 64, .inl (mfn z))) := rfl
set_option maxRecDepth 10000 in
theorem xw_app : xw0 cI cC cM cB ad z t sg sz r x h ah nx kp zh wr = xw0 cI cC cM cB ad z t sg sz r x h ah nx kp zh [] ++ wr := rfl
set_option maxRecDepth 10000 in
theorem xw_len : (xw0 cI cC cM cB ad z t sg sz r x h ah nx kp zh []).length = 139 := rfl
theorem xw_r : (xw0 cI cC cM cB ad z t sg sz r x h ah nx kp zh wr)[139 + k]? = wr[k]? := by
  rw [xw_app, List.getElem?_append_right (by rw [xw_len]; omega), xw_len, Nat.add_sub_cancel_left]
theorem xw_rs {y : Nat × va_E} : (xw0 cI cC cM cB ad z t sg sz r x h ah nx kp zh wr).set (139 + k) y = xw0 cI cC cM cB ad z t sg sz r x h ah nx kp zh (wr.set k y) := by
  rw [xw_app, List.set_append_right _ _ (by rw [xw_len]; omega), xw_len, Nat.add_sub_cancel_left, ← xw_app]
set_option maxRecDepth 10000 in
theorem xw_x : (xw0 cI cC cM cB ad z t sg sz r x h ah nx kp zh wr)[22]? = some (x, .inr (5, [.ref (ad 0), .ref (h 0), .ref (t 0)])) := rfl
theorem lm_at (hi : i = nI k) (hk : k < 64) (hq : 14 + k = q) : mfn z i.toNatClampNeg = z q := by
  subst hq
  rw [z_cl hi (by omega)]; exact if_pos hk
theorem nf_0 (hi : i = nI 0) : nfn z kl i.toNatClampNeg = z 5 := by rw [z_cl hi (by omega)]; rfl
theorem nf_1 (hi : i = nI 1) : nfn z kl i.toNatClampNeg = z 6 := by rw [z_cl hi (by omega)]; rfl
theorem nf_2 (hi : i = nI 2) : nfn z kl i.toNatClampNeg = z 7 := by rw [z_cl hi (by omega)]; rfl
theorem nf_3 (hi : i = nI 3) : nfn z kl i.toNatClampNeg = z 8 := by rw [z_cl hi (by omega)]; rfl
theorem nf_4 (hi : i = nI 4) : nfn z kl i.toNatClampNeg = z 9 := by rw [z_cl hi (by omega)]; rfl
theorem nf_5 (hi : i = nI 5) : nfn z kl i.toNatClampNeg = nI kl := by rw [z_cl hi (by omega)]; rfl
theorem nf_6 (hi : i = nI 6) : nfn z kl i.toNatClampNeg = z 0 := by rw [z_cl hi (by omega)]; rfl
theorem nf_7 (hi : i = nI 7) : nfn z kl i.toNatClampNeg = z 1 := by rw [z_cl hi (by omega)]; rfl
theorem nf_8 (hi : i = nI 8) : nfn z kl i.toNatClampNeg = z 2 := by rw [z_cl hi (by omega)]; rfl
theorem nf_9 (hi : i = nI 9) : nfn z kl i.toNatClampNeg = z 3 := by rw [z_cl hi (by omega)]; rfl
theorem nf_10 (hi : i = nI 10) : nfn z kl i.toNatClampNeg = z 4 := by rw [z_cl hi (by omega)]; rfl
theorem nf_11 (hi : i = nI 11) : nfn z kl i.toNatClampNeg = z 10 := by rw [z_cl hi (by omega)]; rfl
theorem nf_12 (hi : i = nI 12) : nfn z kl i.toNatClampNeg = z 11 := by rw [z_cl hi (by omega)]; rfl
theorem nf_13 (hi : i = nI 13) : nfn z kl i.toNatClampNeg = z 12 := by rw [z_cl hi (by omega)]; rfl
theorem nf_14 (hi : i = nI 14) : nfn z kl i.toNatClampNeg = z 13 := by rw [z_cl hi (by omega)]; rfl
theorem nf_s (hi : i = nI (6 + k)) (hk : k < 5) : nfn z kl i.toNatClampNeg = z k := by
  rw [z_cl hi (by omega)]
  match k, hk with
  | 0, _ => rfl
  | 1, _ => rfl
  | 2, _ => rfl
  | 3, _ => rfl
  | 4, _ => rfl
theorem mfn_n (hq : q < 14) : mfn (upd z q v) = mfn z := mfn_congr (fun p h1 _ => upd_ne (by omega))
theorem nfn_m (hq : 14 ≤ q) : nfn (upd z q v) kl = nfn z kl := nfn_congr (fun p h1 => upd_ne (by omega))
theorem lw_wn {a : Nat} (ha : a < 15) (hq : q < 14) (he : nfn (upd z q v) kl a = v) (ho : ∀ b, b < 15 → b ≠ a → nfn (upd z q v) kl b = nfn z kl b) : (lwS cI na ma z kl wr).set 0 (na, .inl (cI, 15, .inl (upd (nfn z kl) a v))) = lwS cI na ma (upd z q v) kl wr := by
  have e : upd (nfn z kl) a v = nfn (upd z q v) kl := by
    funext b
    by_cases hb : b = a
    · subst hb; rw [upd_eq rfl]; exact he.symm
    · rw [upd_ne hb]
      by_cases h15 : b < 15
      · exact (ho b h15 hb).symm
      · obtain ⟨b, rfl⟩ : ∃ c, b = c + 15 := ⟨b - 15, by omega⟩
        rfl
  show (na, _) :: (ma, _) :: wr = _
  rw [e, lwS, mfn_n hq]
theorem lt15 {P : Nat → Prop} (h0 : P 0) (h1 : P 1) (h2 : P 2) (h3 : P 3) (h4 : P 4) (h5 : P 5) (h6 : P 6) (h7 : P 7) (h8 : P 8) (h9 : P 9) (h10 : P 10) (h11 : P 11) (h12 : P 12) (h13 : P 13) (h14 : P 14) {j : Nat} (hj : j < 15) : P j := by
  match j, hj with
  | 0, _ => exact h0
  | 1, _ => exact h1
  | 2, _ => exact h2
  | 3, _ => exact h3
  | 4, _ => exact h4
  | 5, _ => exact h5
  | 6, _ => exact h6
  | 7, _ => exact h7
  | 8, _ => exact h8
  | 9, _ => exact h9
  | 10, _ => exact h10
  | 11, _ => exact h11
  | 12, _ => exact h12
  | 13, _ => exact h13
  | 14, _ => exact h14
/-- which place of z stands at n[a] -/
def nix (a : Nat) : Nat := if a < 5 then a + 5 else if a < 11 then a - 6 else a - 1
theorem nfn_ix {a : Nat} (ha : a < 15) (h5 : a ≠ 5) : nfn z kl a = z (nix a) :=
  lt15 (P := fun a => a ≠ 5 → nfn z kl a = z (nix a)) (fun _ => rfl) (fun _ => rfl) (fun _ => rfl) (fun _ => rfl) (fun _ => rfl) (fun q => absurd rfl q) (fun _ => rfl) (fun _ => rfl) (fun _ => rfl) (fun _ => rfl) (fun _ => rfl) (fun _ => rfl) (fun _ => rfl) (fun _ => rfl) (fun _ => rfl) ha h5
theorem lw_wx {a : Nat} (ha : a < 15) (h5 : a ≠ 5) (hq : nix a = q) : (lwS cI na ma z kl wr).set 0 (na, .inl (cI, 15, .inl (upd (nfn z kl) a v))) = lwS cI na ma (upd z q v) kl wr := by
  subst hq
  refine lw_wn ha (by unfold nix; split <;> (try split) <;> omega) ((nfn_ix ha h5).trans (upd_eq rfl)) (fun b hb hab => ?_)
  by_cases hb5 : b = 5
  · subst hb5; rfl
  · rw [nfn_ix hb hb5, nfn_ix hb hb5, upd_ne (fun e => hab ?_)]
    revert e
    unfold nix
    split <;> split <;> (try split) <;> (try split) <;> intro e <;> omega
theorem lw_wk {k2 : Nat} : (lwS cI na ma z kl wr).set 0 (na, .inl (cI, 15, .inl (upd (nfn z kl) 5 (nI k2)))) = lwS cI na ma z k2 wr := by
  have e : upd (nfn z kl) 5 (nI k2) = nfn z k2 := by
    funext b
    by_cases hb : b = 5
    · subst hb; rw [upd_eq rfl]; rfl
    · rw [upd_ne hb]
      by_cases h15 : b < 15
      · rw [nfn_ix h15 hb, nfn_ix h15 hb]
      · obtain ⟨b, rfl⟩ : ∃ c, b = c + 15 := ⟨b - 15, by omega⟩
        rfl
  show (na, _) :: (ma, _) :: wr = _
  rw [e]
theorem lw_wm (hk : k < 64) (hq : 14 + k = q) : (lwS cI na ma z kl wr).set 1 (ma, .inl (cI, 64, .inl (upd (mfn z) k v))) = lwS cI na ma (upd z q v) kl wr := by
  subst hq
  have e : upd (mfn z) k v = mfn (upd z (14 + k) v) := by
    funext b
    by_cases hb : b = k
    · subst hb; rw [upd_eq rfl]; unfold mfn; rw [if_pos hk, upd_eq rfl]
    · rw [upd_ne hb]; unfold mfn
      split
      · rw [upd_ne (by omega)]
      · rfl
  show (na, _) :: (ma, _) :: wr = _
  rw [e, lwS, nfn_m (by omega)]
end LW
/-! Numbers of the law. -/
def usr (x y : Int32) : Int32 := (x.toUInt32 >>> (y.toUInt32 &&& Int32.toUInt32 31)).toInt32
def atP (x n : Int32) : Int32 := usr x 1 - usr x 1 / n * n
theorem usr_1 {x : Int32} : ∃ a : Nat, a < 2 ^ 31 ∧ usr x 1 = nI a := by
  have e : ((1 : Int32).toUInt32 &&& Int32.toUInt32 31) = 1 := by decide
  unfold usr
  rw [e]
  have h : (x.toUInt32 >>> (1 : UInt32)).toNat = x.toUInt32.toNat / 2 := by
    rw [UInt32.toNat_shiftRight]
    show x.toUInt32.toNat >>> 1 = _
    rw [Nat.shiftRight_eq_div_pow]
  have hx := x.toUInt32.toNat_lt
  refine ⟨x.toUInt32.toNat / 2, by omega, ?_⟩
  rw [← h]
  exact (Int32.ofNat_bitVecToNat (x.toUInt32 >>> (1 : UInt32)).toBitVec).symm
theorem at_nat {x : Int32} {N : Nat} (h0 : 0 < N) (hN : N < 2 ^ 31) : ∃ a : Nat, a < N ∧ atP x (nI N) = nI a := by
  obtain ⟨a, ha, e⟩ := usr_1 (x := x)
  refine ⟨a % N, Nat.mod_lt _ h0, ?_⟩
  unfold atP
  rw [e]
  exact pk_rem (d := N) ha h0 hN
theorem on4_eq {b : Int32} : ((((b &&& 1) + ((b >>> ((1 : Int32) &&& 31)) &&& 1)) + ((b >>> ((2 : Int32) &&& 31)) &&& 1)) + ((b >>> ((3 : Int32) &&& 31)) &&& 1) : Int32) = oneP b 4 := by
  show _ = ((((0 : Int32) + ((b >>> (nI 0 &&& 31)) &&& 1)) + ((b >>> (nI 1 &&& 31)) &&& 1)) + ((b >>> (nI 2 &&& 31)) &&& 1)) + ((b >>> (nI 3 &&& 31)) &&& 1)
  have e : (nI 0 &&& 31 : Int32) = 0 := by decide
  rw [e, Int32.shiftRight_zero, Int32.zero_add]
  rfl
theorem val_a {q mn : Int32} (c : 9 < q / 300) : mn * 19 / 10 = valP q mn := by
  unfold valP rateP ripeP minP
  rw [if_pos c]; rfl
theorem val_b {q mn : Int32} (c : ¬ 9 < q / 300) : mn * (10 + q / 300) / 10 = valP q mn := by
  unfold valP rateP ripeP minP
  rw [if_neg c]
