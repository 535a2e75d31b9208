/-! The saved states: the ring of the class, the row of rows of the reference, and the common rows H (the oldest first). -/
def hOK (C : Nat) (zh : Nat → Nat → Int32) (nx kp : Nat) (hi : Nat → Int32) (H : Nat → Nat → Int32) : Prop := nx < 6 ∧ kp ≤ 6 ∧ (∀ i, i < 6 → hBool (zh i)) ∧ ∀ s, s < kp → eqC (zh ((nx + 6 - kp + s) % 6)) (H s) ∧ (∀ k, k < 142 → hi (142 * s + k) = H s k) ∧ ∃ n, rOK C n (H s)
theorem hOK_up {C C2 : Nat} {zh : Nat → Nat → Int32} {nx kp : Nat} {hi : Nat → Int32} {H : Nat → Nat → Int32} (h : C ≤ C2) (a : hOK C zh nx kp hi H) : hOK C2 zh nx kp hi H := by
  obtain ⟨a1, a2, a3, a4⟩ := a
  refine ⟨a1, a2, a3, fun s hs => ?_⟩
  obtain ⟨b1, b2, n, b3⟩ := a4 s hs
  exact ⟨b1, b2, n, rOK_up h b3⟩
def svR (H : Nat → Nat → Int32) (z : Nat → Int32) (kp : Nat) : Nat → Nat → Int32 := if kp < 6 then (fun s => if s = kp then z else H s) else (fun s => if s = 5 then z else H (s + 1))
theorem hs_save {C n : Nat} {zh : Nat → Nat → Int32} {nx kp : Nat} {hi z : Nat → Int32} {H : Nat → Nat → Int32} (a : hOK C zh nx kp hi H) (hz : rOK C n z) : hOK C (zup zh nx z) ((nx + 1) % 6) (min (kp + 1) 6) (svH hi z kp) (svR H z kp) := by
  obtain ⟨hnx, hkp, hB, h⟩ := a
  refine ⟨by omega, by omega, fun i hi => ?_, fun s hs => ?_⟩
  · unfold zup
    split
    · exact hz.2.2.1
    · exact hB i hi
  · by_cases c : kp < 6
    · have e6 : min (kp + 1) 6 = kp + 1 := by omega
      rw [e6] at hs ⊢
      unfold svR svH
      rw [if_pos c, if_neg (show ¬ kp = 6 by omega)]
      by_cases e : s = kp
      · subst e
        have i1 : ((nx + 1) % 6 + 6 - (s + 1) + s) % 6 = nx := by omega
        rw [i1]
        rw [if_pos rfl]
        refine ⟨fun k _ _ _ => ?_, fun k hk => ?_, n, hz⟩
        · unfold zup; rw [if_pos rfl]
        · unfold cpH; rw [if_pos (by omega), show 142 * s + k - 142 * s = k by omega]
      · have i1 : ((nx + 1) % 6 + 6 - (kp + 1) + s) % 6 = (nx + 6 - kp + s) % 6 := by omega
        have i2 : ¬ (nx + 6 - kp + s) % 6 = nx := by omega
        obtain ⟨b1, b2, m, b3⟩ := h s (by omega)
        rw [i1]
        rw [if_neg e]
        refine ⟨fun k h1 h2 h3 => ?_, fun k hk => ?_, m, b3⟩
        · unfold zup; rw [if_neg i2]; exact b1 k h1 h2 h3
        · unfold cpH; rw [if_neg (by omega)]; exact b2 k hk
    · have ek : kp = 6 := by omega
      subst ek
      have e6 : min (6 + 1) 6 = 6 := by omega
      rw [e6] at hs ⊢
      unfold svR svH
      rw [if_neg c, if_pos rfl]
      by_cases e : s = 5
      · subst e
        have i1 : ((nx + 1) % 6 + 6 - 6 + 5) % 6 = nx := by omega
        rw [i1]
        rw [if_pos rfl]
        refine ⟨fun k _ _ _ => ?_, fun k hk => ?_, n, hz⟩
        · unfold zup; rw [if_pos rfl]
        · unfold cpH; rw [if_pos (by omega), show 142 * 5 + k - 142 * 5 = k by omega]
      · have i1 : ((nx + 1) % 6 + 6 - 6 + s) % 6 = (nx + 6 - 6 + (s + 1)) % 6 := by omega
        have i2 : ¬ (nx + 6 - 6 + (s + 1)) % 6 = nx := by omega
        obtain ⟨b1, b2, m, b3⟩ := h (s + 1) (by omega)
        rw [i1]
        rw [if_neg e]
        refine ⟨fun k h1 h2 h3 => ?_, fun k hk => ?_, m, b3⟩
        · unfold zup; rw [if_neg i2]; exact b1 k h1 h2 h3
        · unfold cpH; rw [if_neg (by omega)]; unfold shI; rw [if_pos (by omega), show 142 * s + k + 142 = 142 * (s + 1) + k by omega]; exact b2 k hk
theorem hs_undo {C : Nat} {zh : Nat → Nat → Int32} {nx kp : Nat} {hi z : Nat → Int32} {H : Nat → Nat → Int32} (a : hOK C zh nx kp hi H) (hk : 1 ≤ kp) : hOK C zh ((nx + 5) % 6) (kp - 1) hi H ∧ eqC (zh ((nx + 5) % 6)) (H (kp - 1)) ∧ eqM (unR z hi (kp - 1) 142) (H (kp - 1)) ∧ ∃ n, rOK C n (H (kp - 1)) := by
  obtain ⟨hnx, hkp, hB, h⟩ := a
  obtain ⟨b1, b2, b3⟩ := h (kp - 1) (by omega)
  rw [show (nx + 6 - kp + (kp - 1)) % 6 = (nx + 5) % 6 by omega] at b1
  refine ⟨⟨by omega, by omega, hB, fun s hs => ?_⟩, b1, fun k hk => ?_, b3⟩
  · rw [show ((nx + 5) % 6 + 6 - (kp - 1) + s) % 6 = (nx + 6 - kp + s) % 6 by omega]
    exact h s (by omega)
  · unfold unR; rw [if_pos hk]; exact b2 k hk
