/-! The buffer: its signs, how many, and the reader's row (place, giver, taker, skill, minutes). -/
def rfs (r : Nat → Int32) : List Value := [.int (r 0), .int (r 1), .int (r 2), .int (r 3), .int (r 4)]
def txW (cC : ClassId) (t : Nat → Nat) (sg : Nat → Int32) (sz : Int32) (r : Nat → Int32) (wr : va_W) : va_W := (t 0, .inr (2, [.ref (t 1), .ref (t 2), .int sz])) :: (t 1, .inl (cC, 60, .inl sg)) :: (t 2, .inr (1, rfs r)) :: wr
section TX
variable {cC : ClassId} {t : Nat → Nat} {sg : Nat → Int32} {sz : Int32} {r : Nat → Int32} {wr : va_W} {k : Nat}
theorem tx_r : (txW cC t sg sz r wr)[3 + k]? = wr[k]? := by
  rw [show 3 + k = k + 1 + 1 + 1 by omega]; rfl
theorem tx_rs {x : Nat × va_E} : (txW cC t sg sz r wr).set (3 + k) x = txW cC t sg sz r (wr.set k x) := by
  rw [show 3 + k = k + 1 + 1 + 1 by omega]; rfl
theorem z_cl {i : Int32} (hi : i = nI k) (hk : k < 2 ^ 31 := by omega) : i.toNatClampNeg = k := by rw [hi, nI_clamp hk]
end TX
abbrev inP (v a b : Int32) : Prop := ¬ (v < a) ∧ ¬ (b < v)
abbrev whP (r : Nat → Int32) : Prop := r 0 = 5 ∧ 0 < r 4
section XB
variable {l : Launch} {D : va_G} {cI cC cM cB cJ : ClassId} {ad ad2 : Nat → Nat} {z z2 : Nat → Int32} {wr : va_W}
end XB
