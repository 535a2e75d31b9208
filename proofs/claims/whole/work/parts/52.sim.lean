/-! One state for both sides, and what each call makes of it. -/
def lwI (C n : Nat) (z : Nat → Int32) (zh : Nat → Nat → Int32) (nx kp : Nat) (hi : Nat → Int32) (H : Nat → Nat → Int32) (T : Nat → Int32) (nb : Nat) (mr : Nat → Int32) : Prop := rOK C n z ∧ hOK C zh nx kp hi H ∧ nb ≤ 60 ∧ (∀ k, k < nb → bt (T k) 33 126) ∧ mr 0 = nI kp ∧ mr 1 = nI nb
section LI
variable {C C2 n n2 nx kp nb : Nat} {z z2 hi T mr mr2 r pa : Nat → Int32} {zh H : Nat → Nat → Int32}
theorem lwI_up (a : lwI C n z zh nx kp hi H T nb mr) (h : C ≤ C2) (h0 : mr2 0 = mr 0) (h1 : mr2 1 = mr 1) : lwI C2 n z zh nx kp hi H T nb mr2 := by
  obtain ⟨a1, a2, a3, a4, a5, a6⟩ := a
  exact ⟨rOK_up h a1, hOK_up h a2, a3, a4, h0.trans a5, h1.trans a6⟩
theorem lwI_save (a : lwI C n z zh nx kp hi H T nb mr) (h : C ≤ C2) (hz : rOK C2 n2 z2) (h0 : mr2 0 = nI (min (kp + 1) 6)) (h1 : mr2 1 = mr 1) : lwI C2 n2 z2 (zup zh nx z) ((nx + 1) % 6) (min (kp + 1) 6) (svH hi z kp) (svR H z kp) T nb mr2 := by
  obtain ⟨a1, a2, a3, a4, a5, a6⟩ := a
  exact ⟨hz, hs_save (hOK_up h a2) (rOK_up h a1), a3, a4, h0, h1.trans a6⟩
/-- numbers of members, of skills -/
theorem mP_j {mb : Int32} (hn : n ≤ 8) (h : mP mb n) : cl mb < n ∧ mb = nI (cl mb) := by
  obtain ⟨h1, h2⟩ := h
  obtain ⟨j, hj, rfl⟩ := nI_of h1
  have e : cl (nI j) = j := nI_clamp hj
  rw [e]
  exact ⟨(nI_lti hj (by omega)).mp h2, rfl⟩
theorem sP_j {sk : Int32} (h : sP sk) : cl sk < 5 ∧ sk = nI (cl sk) := by
  obtain ⟨j, hj, rfl⟩ := skl_nat h
  have e : cl (nI j) = j := nI_clamp (by omega)
  rw [e]
  exact ⟨hj, rfl⟩
theorem inP_b {v a b : Int32} (h : inP v a b) : bt v a.toInt b.toInt := by
  obtain ⟨h1, h2⟩ := h
  rw [t_lt] at h1 h2
  exact ⟨by omega, by omega⟩
theorem inP_600 {v : Int32} (h : inP v 1 600) : bt v 1 600 := by
  have := inP_b h
  rwa [show (1 : Int32).toInt = 1 by decide, show (600 : Int32).toInt = 600 by decide] at this
theorem inP_999 {v : Int32} (h : inP v 1 999) : bt v 1 999 := by
  have := inP_b h
  rwa [show (1 : Int32).toInt = 1 by decide, show (999 : Int32).toInt = 999 by decide] at this
theorem inP_sg {v : Int32} (h : inP v 33 126) : bt v 33 126 := by
  have := inP_b h
  rwa [show (33 : Int32).toInt = 33 by decide, show (126 : Int32).toInt = 126 by decide] at this
/-! Where K is 0. -/
theorem k0_join (hn : n ≤ 8) (h : kJoin n = 0) : n < 8 := by
  unfold kJoin at h
  split at h
  · rename_i c; exact (nI_lti (a := n) (b := 8) (by omega) (by omega)).mp c
  · exact absurd h (by decide)
theorem k0_leave {mb : Int32} (h : kLeave z n mb = 0) : mP mb n ∧ ¬ z (14 + 16 * cl mb) = 0 ∧ ¬ z (14 + 16 * cl mb + 1) < 0 := by
  unfold kLeave at h
  by_cases a : mP mb n
  · rw [if_pos a] at h
    by_cases b : z (14 + 16 * cl mb) = 0
    · rw [if_pos b] at h; exact absurd h (by decide)
    · rw [if_neg b] at h
      by_cases c : z (14 + 16 * cl mb + 1) < 0
      · rw [if_pos c] at h; exact absurd h (by decide)
      · exact ⟨a, b, c⟩
  · rw [if_neg a] at h; exact absurd h (by decide)
theorem k0_give {ga ta sk mn : Int32} (h : kGive z n ga ta sk mn = 0) : mP ga n ∧ mP ta n ∧ sP sk ∧ ¬ ga = ta ∧ inP mn 1 600 ∧ alwP z n (cl ga) (cl ta) (cl sk) mn := by
  unfold kGive at h
  by_cases a : mP ga n
  · rw [if_pos a] at h
    by_cases b : mP ta n
    · rw [if_pos b] at h
      by_cases c : sP sk
      · rw [if_pos c] at h
        by_cases d : ga = ta
        · rw [if_pos d] at h; exact absurd h (by decide)
        · rw [if_neg d] at h
          by_cases e : inP mn 1 600
          · rw [if_pos e] at h
            by_cases f : alwP z n (cl ga) (cl ta) (cl sk) mn
            · exact ⟨a, b, c, d, e, f⟩
            · rw [if_neg f] at h; exact absurd h (by decide)
          · rw [if_neg e] at h; exact absurd h (by decide)
      · rw [if_neg c] at h; exact absurd h (by decide)
    · rw [if_neg b] at h; exact absurd h (by decide)
  · rw [if_neg a] at h; exact absurd h (by decide)
theorem k0_donate {mb mn : Int32} (h : kDonate z n mb mn = 0) : mP mb n ∧ inP mn 1 999 ∧ ¬ z (14 + 16 * cl mb + 1) < mn := by
  unfold kDonate at h
  by_cases a : mP mb n
  · rw [if_pos a] at h
    by_cases b : inP mn 1 999
    · rw [if_pos b] at h
      by_cases c : z (14 + 16 * cl mb) = 0
      · rw [if_pos c] at h; exact absurd h (by decide)
      · rw [if_neg c] at h
        by_cases d : z (14 + 16 * cl mb + 1) < mn
        · rw [if_pos d] at h; exact absurd h (by decide)
        · exact ⟨a, b, d⟩
    · rw [if_neg b] at h; exact absurd h (by decide)
  · rw [if_neg a] at h; exact absurd h (by decide)
theorem k0_set {st v : Int32} (h : kSet st v = 0) : sP st ∧ inP v 0 (gsA (cl st)) := by
  unfold kSet at h
  by_cases a : sP st
  · rw [if_pos a] at h
    by_cases b : inP v 0 (gsA (cl st))
    · exact ⟨a, b⟩
    · rw [if_neg b] at h; exact absurd h (by decide)
  · rw [if_neg a] at h; exact absurd h (by decide)
theorem k0_move {mb mn : Int32} (h : kMove z n mb mn = 0) : mP mb n ∧ ¬ mn < 1 ∧ alwM z (cl mb) mn := by
  unfold kMove at h
  by_cases a : mP mb n
  · rw [if_pos a] at h
    by_cases b : mn < 1
    · rw [if_pos b] at h; exact absurd h (by decide)
    · rw [if_neg b] at h
      by_cases c : alwM z (cl mb) mn
      · exact ⟨a, b, c⟩
      · rw [if_neg c] at h; exact absurd h (by decide)
  · rw [if_neg a] at h; exact absurd h (by decide)
theorem k0_vote {mb : Int32} (h : kVote z n mb = 0) : mP mb n ∧ cvP z (cl mb) := by
  unfold kVote at h
  by_cases a : mP mb n
  · rw [if_pos a] at h
    by_cases b : cvP z (cl mb)
    · exact ⟨a, b⟩
    · rw [if_neg b] at h; exact absurd h (by decide)
  · rw [if_neg a] at h; exact absurd h (by decide)
theorem k0_append {cd : Int32} (hnb : nb ≤ 60) (h : kAppend nb cd = 0) : inP cd 33 126 ∧ nb < 60 := by
  unfold kAppend at h
  by_cases a : inP cd 33 126
  · rw [if_pos a] at h
    by_cases b : nI nb < 60
    · exact ⟨a, (nI_lti (a := nb) (b := 60) (by omega) (by omega)).mp b⟩
    · rw [if_neg b] at h; exact absurd h (by decide)
  · rw [if_neg a] at h; exact absurd h (by decide)
theorem kU_eq (hk : kp ≤ 6) : kUndoM kp = kUndo kp := by
  unfold kUndo kUndoM
  by_cases c : nI kp < 1
  · have := (nI_lti (a := kp) (b := 1) (by omega) (by omega)).mp c
    have q0 : ¬ (0 : Int32) < nI kp := fun q => by have := (nI_lti (a := 0) (b := kp) (by omega) (by omega)).mp q; omega
    rw [if_pos c, if_neg q0]
  · have q0 : (0 : Int32) < nI kp := (nI_lti (a := 0) (b := kp) (by omega) (by omega)).mpr (by
      rcases Nat.lt_or_ge 0 kp with q | q
      · exact q
      · exact absurd ((nI_lti (a := kp) (b := 1) (by omega) (by omega)).mpr (by omega)) c)
    rw [if_neg c, if_pos q0]
theorem k0_undo (hk : kp ≤ 6) (h : kUndo kp = 0) : 1 ≤ kp := by
  unfold kUndo at h
  by_cases c : nI kp < 1
  · rw [if_pos c] at h; exact absurd h (by decide)
  · rcases Nat.lt_or_ge 0 kp with q | q
    · exact q
    · exact absurd ((nI_lti (a := kp) (b := 1) (by omega) (by omega)).mpr (by omega)) c
theorem k0_mb {mb x lo hi2 : Int32} (h : (if mP mb n then (if inP x lo hi2 then (0 : Int32) else 2) else 1) = 0) : mP mb n ∧ inP x lo hi2 := by
  by_cases a : mP mb n
  · rw [if_pos a] at h
    by_cases b : inP x lo hi2
    · exact ⟨a, b⟩
    · rw [if_neg b] at h; exact absurd h (by decide)
  · rw [if_neg a] at h; exact absurd h (by decide)
theorem k0_msk {mb sk x lo hi2 : Int32} (h : (if mP mb n then (if sP sk then (if inP x lo hi2 then (0 : Int32) else 2) else 1) else 1) = 0) : mP mb n ∧ sP sk ∧ inP x lo hi2 := by
  by_cases a : mP mb n
  · rw [if_pos a] at h
    by_cases c : sP sk
    · rw [if_pos c] at h
      by_cases b : inP x lo hi2
      · exact ⟨a, c, b⟩
      · rw [if_neg b] at h; exact absurd h (by decide)
    · rw [if_neg c] at h; exact absurd h (by decide)
  · rw [if_neg a] at h; exact absurd h (by decide)
theorem k0_longest {ga ta sk : Int32} (h : kLongest n ga ta sk = 0) : mP ga n ∧ mP ta n ∧ sP sk := by
  unfold kLongest at h
  by_cases a : mP ga n
  · rw [if_pos a] at h
    by_cases b : mP ta n
    · rw [if_pos b] at h
      by_cases c : sP sk
      · exact ⟨a, b, c⟩
      · rw [if_neg c] at h; exact absurd h (by decide)
    · rw [if_neg b] at h; exact absurd h (by decide)
  · rw [if_neg a] at h; exact absurd h (by decide)
/-! Answers. -/
theorem move_ans {d : Nat} {mn : Int32} (ht : z (14 + 16 * d) = 1) : cntT (upd (upd z 10 (nI d)) 11 mn) n - upd (upd z 10 (nI d)) 11 mn (14 + 16 * d) = cntT (upd (upd z 10 (nI d)) 11 mn) n - 1 := by
  rw [upd_ne (show 14 + 16 * d ≠ 11 by omega), upd_ne (show 14 + 16 * d ≠ 10 by omega), ht]
theorem two_cnt {m : Int32} (h : ∀ k : Nat, k < 8 → (m >>> (nI k &&& 31)) &&& 1 = if z (142 + k) = 0 then 0 else 1) (h3 : ∀ j, j < 8 → z (142 + j) = 0 ∨ z (142 + j) = 1 ∨ z (142 + j) = 2) : ∀ i : Nat, i ≤ 8 → oneP m i = cntB z 1 i + cntB z 2 i
  | 0, _ => rfl
  | i + 1, hi => by
    rw [oneP, cntB, cntB, two_cnt h h3 i (by omega), h i (by omega)]
    rcases h3 i (by omega) with q | q | q
    · rw [q, if_pos rfl, if_neg (by decide), if_neg (by decide), Int32.add_zero]
    · rw [q, if_neg (by decide), if_pos rfl, if_neg (by decide)]; grind
    · rw [q, if_neg (by decide), if_neg (by decide), if_pos rfl]; grind
theorem take_ans (h : rOK C n z) : oneP (z 12 ||| z 13) 8 = cntB z 1 n + cntB z 2 n := by
  obtain ⟨hn, -, -, hM, ht, hv, -, -⟩ := h
  have h3 := vOK_3 hv
  have a := two_cnt (z := z) (m := z 12 ||| z 13) (fun k hk => by
    obtain ⟨p, q⟩ := hM k hk
    rw [or_bit, p, q]
    rcases h3 k hk with e | e | e <;> rw [e] <;> decide) h3 8 (Nat.le_refl _)
  have far := vOK_far hv ht
  have b := cnt_more (z := z) (kd := 1) (by decide) far (8 - n) (by omega)
  have c := cnt_more (z := z) (kd := 2) (by decide) far (8 - n) (by omega)
  rw [show n + (8 - n) = 8 by omega] at b c
  rw [a, b, c]
theorem vOK_nine (h : rOK C n z) : z 10 = -1 ∨ ∃ d, d < n ∧ z 10 = nI d ∧ z (14 + 16 * d) = 1 := by
  rcases h.2.2.2.2.2.1 with ⟨a, _⟩ | ⟨d, a, b, c, _⟩
  · exact Or.inl a
  · exact Or.inr ⟨d, a, b, c⟩
theorem fm_at0 {tx mr0 : Nat → Int32} {k m : Nat} (h3 : k ≠ 3) (h4 : k ≠ 4) (h5 : k ≠ 5) : (fmS tx (tM0 pa mr0) 0 m).2.1 k = mr0 k :=
  (fmS_at h3 h4 h5 m 0 _).trans ((upd_ne h5).trans (upd_ne h3))
end LI
