/-! The reference's asks and its reader. -/
def lgM (z : Nat → Int32) (g t k : Nat) : Nat → Int32
  | 0 => -1
  | i + 1 => if cdP z g t k (nI (i + 1)) then nI (i + 1) else lgM z g t k i
def chM (z : Nat → Int32) (t k : Nat) (mn : Int32) : Nat → Int32
  | 0 => -1
  | i + 1 => if cdP z i t k mn then (if chM z t k mn i = -1 then nI i else if 0 < valP (z (25 + 16 * (chM z t k mn i).toNatClampNeg + k)) mn - valP (z (25 + 16 * i + k)) mn then nI i else if valP (z (25 + 16 * (chM z t k mn i).toNatClampNeg + k)) mn - valP (z (25 + 16 * i + k)) mn = 0 then (if z (14 + 16 * i + 1) < z (14 + 16 * (chM z t k mn i).toNatClampNeg + 1) then nI i else chM z t k mn i) else chM z t k mn i) else chM z t k mn i
theorem chM_nat {z : Nat → Int32} {t k : Nat} {mn : Int32} : ∀ {i : Nat}, i ≤ 8 → ¬ chM z t k mn i = -1 → ∃ b : Nat, b < 8 ∧ chM z t k mn i = nI b
  | 0, _, h => absurd rfl h
  | i + 1, hi, h => by
    rw [chM] at h ⊢
    split
    · rename_i q0
      rw [if_pos q0] at h
      split
      · exact ⟨i, by omega, rfl⟩
      · rename_i q1
        have ih := chM_nat (z := z) (t := t) (k := k) (mn := mn) (i := i) (by omega) q1
        split
        · exact ⟨i, by omega, rfl⟩
        · split
          · split
            · exact ⟨i, by omega, rfl⟩
            · exact ih
          · exact ih
    · rename_i q0
      rw [if_neg q0] at h
      exact chM_nat (by omega) h
def dcM (z : Nat → Int32) (n j wk : Nat) : Int32 := if wkS z n wk < wkI z n wk (14 + 16 * j + 9) - z (14 + 16 * j + 9) then -1 else wkI z n wk (14 + 16 * j + 9) - z (14 + 16 * j + 9)
/-! The reader: the parts, the row of numbers (read at 3, number at 4, due at 5) and how many deals are read. -/
section XB
variable {l : Launch} {D : va_G} {cI cC cM cB cJ : ClassId} {q : Nat → Nat} {z hi tx pa ke mr : Nat → Int32} {hs : Int64} {wr : va_W}
end XB
