/-! The reference's weeks, saves and asks. -/
theorem ewZ_bool {z : Nat → Int32} {j : Nat} (h : hBool z) : hBool (ewZ z j) := by
  intro i hi
  obtain ⟨a, b⟩ := h i hi
  unfold ewZ
  by_cases e : i = j
  · subst e
    split
    · rw [rustZ_at 5 (by omega), rustZ_at 5 (by omega)]
      simp (disch := omega) only [upd_eq, upd_ne]
      exact ⟨a, Or.inl trivial⟩
    · simp (disch := omega) only [upd_eq, upd_ne]
      exact ⟨a, Or.inl trivial⟩
  · split
    · rw [rustZ_at 5 (by omega), rustZ_at 5 (by omega)]
      simp (disch := omega) only [upd_eq, upd_ne]
      exact ⟨a, b⟩
    · simp (disch := omega) only [upd_eq, upd_ne]
      exact ⟨a, b⟩
theorem ewkZ_bool {z : Nat → Int32} (h : hBool z) : ∀ i : Nat, hBool (ewkZ z i)
  | 0 => h
  | i + 1 => by
    rw [ewkZ]
    split
    · exact ewkZ_bool h i
    · exact ewZ_bool (ewkZ_bool h i)
theorem upd_bool {z : Nat → Int32} {k : Nat} {v : Int32} (hk : k < 14) (h : hBool z) : hBool (upd z k v) := by
  intro i hi
  rw [upd_ne (by omega), upd_ne (by omega)]
  exact h i hi
theorem wkI_bool {z : Nat → Int32} {n : Nat} (h : hBool z) : ∀ i : Nat, hBool (wkI z n i)
  | 0 => h
  | i + 1 => ewkZ_bool (upd_bool (by decide) (wkI_bool h i)) n
abbrev hVote (z : Nat → Int32) : Prop := ∀ j : Nat, j < 8 → (((z 12 ||| z 13) >>> (nI j &&& 31)) &&& 1 = 1 ↔ ¬ z (142 + j) = 0)
section XB
variable {l : Launch} {D : va_G} {cI cC cM cB cJ : ClassId} {q : Nat → Nat} {z hi tx pa ke mr : Nat → Int32} {hs : Int64} {wr : va_W}
end XB
