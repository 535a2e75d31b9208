/-! What the reference's calls answer. -/
theorem updB_x {z : Nat → Int32} {k : Nat} {v : Int32} (h : hBool z) (hk : ∀ i : Nat, i < 8 → k ≠ 14 + 16 * i ∧ k ≠ 14 + 16 * i + 4) : hBool (upd z k v) := by
  intro i hi
  rw [upd_ne (fun q => (hk i hi).1 q.symm), upd_ne (fun q => (hk i hi).2 q.symm)]
  exact h i hi
theorem updB_0 {z : Nat → Int32} {k : Nat} {v : Int32} (h : hBool z) (hv : v = 0 ∨ v = 1) : hBool (upd z k v) := by
  intro i hi
  constructor
  · by_cases e : 14 + 16 * i = k
    · rw [upd_eq e]; exact hv
    · rw [upd_ne e]; exact (h i hi).1
  · by_cases e : 14 + 16 * i + 4 = k
    · rw [upd_eq e]; exact hv
    · rw [upd_ne e]; exact (h i hi).2
def qz_join (z : Nat → Int32) (n : Nat) : Nat → Int32 := upd (upd (upd (upd (upd z 5 (nI (n + 1))) (14 + 16 * n) 1) (14 + 16 * n + 1) (z 1)) (14 + 16 * n + 2) (z 1)) 6 ((z 6) - (z 1))
def qz_out (z : Nat → Int32) (j : Nat) : Nat → Int32 := upd (upd (upd (upd (upd (upd z 6 ((z 6) + (z (14 + 16 * j + 1)))) (14 + 16 * j) 0) (14 + 16 * j + 1) 0) (14 + 16 * j + 2) 0) 12 ((z 12) &&& ((1 <<< ((nI j) &&& 31)) ^^^ (-1)))) 13 ((z 13) &&& ((1 <<< ((nI j) &&& 31)) ^^^ (-1)))
def qz_leave (z : Nat → Int32) (n j d : Nat) : Nat → Int32 := if nI d = nI j then endZ (qz_out z j) else lkZ (qz_out z j) n d
def qz_pay (z : Nat → Int32) (j : Nat) (mn : Int32) : Nat → Int32 := upd (upd z (14 + 16 * j + 1) ((z (14 + 16 * j + 1)) + (-mn))) 6 ((z 6) + mn)
def qz_vote (z : Nat → Int32) (j : Nat) (bf : Int32) : Nat → Int32 := if bf = 0 then upd z 13 ((z 13) ||| (1 <<< ((nI j) &&& 31))) else upd z 12 ((z 12) ||| (1 <<< ((nI j) &&& 31)))
section XB
variable {l : Launch} {D : va_G} {cI cC cM cB cJ : ClassId} {q : Nat → Nat} {z hi tx pa ke mr : Nat → Int32} {hs : Int64} {wr : va_W}
end XB
