theorem mem_iff {n : Nat} (hn : n ≤ 8) (x : Int32) : inP x 0 (nI n - 1) ↔ mP x n := by
  constructor
  · intro h
    refine ⟨h.1, ?_⟩
    obtain ⟨j, hj, rfl⟩ := nI_of h.1
    rcases Nat.eq_zero_or_pos n with h0 | h0
    · subst h0
      exact absurd (Int32.lt_of_lt_of_le (show (nI 0 - 1 : Int32) < 0 by decide) (nI_pos' hj)) h.2
    · have h2 := h.2
      have e : nI n - 1 = nI (n - 1) := pk_sub (a := n) (b := 1) h0
      rw [e] at h2
      rcases Nat.lt_or_ge j n with q | q
      · exact nI_lt q (by omega)
      · exact absurd (nI_lt (a := n - 1) (b := j) (by omega) hj) h2
  · intro h
    refine ⟨h.1, ?_⟩
    obtain ⟨j, hj, rfl⟩ := mem_nat hn h
    have e : nI n - 1 = nI (n - 1) := pk_sub (a := n) (b := 1) (by omega)
    rw [e]
    exact nI_nlt (by omega) (by omega)
def endZ (z : Nat → Int32) : Nat → Int32 := upd (upd (upd (upd z 10 (-1)) 11 0) 12 0) 13 0
def lkR (z : Nat → Int32) (n d : Nat) : Int32 := if 0 < cntT z n - z (14 + 16 * d) then (if cntT z n - z (14 + 16 * d) < 2 * oneP (z 12) 8 then 1 else if 2 * oneP (z 13) 8 < cntT z n - z (14 + 16 * d) then 0 else 2) else 0
def lkZ (z : Nat → Int32) (n d : Nat) : Nat → Int32 := if 0 < cntT z n - z (14 + 16 * d) then (if cntT z n - z (14 + 16 * d) < 2 * oneP (z 12) 8 then endZ (upd (upd (upd z (14 + 16 * d + 1) (z (14 + 16 * d + 1) + z 11)) (14 + 16 * d + 10) (z (14 + 16 * d + 10) + z 11)) 7 (z 7 + z 11)) else if 2 * oneP (z 13) 8 < cntT z n - z (14 + 16 * d) then z else endZ z) else z
abbrev cdP (z : Nat → Int32) (g t k : Nat) (mn : Int32) : Prop := ¬ (nI g = nI t) ∧ ¬ (z (14 + 16 * g) = 0) ∧ ¬ (z (14 + 16 * t) = 0) ∧ ¬ (z (14 + 16 * t + 1) - valP (z (25 + 16 * g + k)) mn < -(z 0))
section XB
variable {l : Launch} {D : va_G} {cI cC cM cB cJ : ClassId} {q : Nat → Nat} {z hi tx pa ke mr : Nat → Int32} {hs : Int64} {wr : va_W}
end XB
