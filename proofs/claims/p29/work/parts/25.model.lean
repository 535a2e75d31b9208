/-! The reference's run. -/
theorem dealZ_bool {z : Nat → Int32} {g t k : Nat} {mn : Int32} (hk : k < 5) (h : hBool z) : hBool (dealZ z g t k mn) := by
  unfold dealZ
  exact updB_x (updB_x (updB_x (updB_x (updB_x (updB_0 (updB_x (updB_x (updB_x (updB_0 (updB_x (updB_x (updB_x h (fun i _ => by omega)) (fun i _ => by omega)) (fun i _ => by omega)) (Or.inr rfl)) (fun i _ => by omega)) (fun i _ => by omega)) (fun i _ => by omega)) (Or.inr rfl)) (fun i _ => by omega)) (fun i _ => by omega)) (fun i _ => by omega)) (fun i _ => by omega)) (fun i _ => by omega)
section XB
variable {l : Launch} {D : va_G} {cI cC cM cB cJ : ClassId} {q : Nat → Nat} {z hi tx pa ke mr : Nat → Int32} {hs : Int64} {wr : va_W}
end XB
