/-! The reference's object and its five rows. mr: states, length, thrown, read, number, due. -/
def zfn (z : Nat → Int32) : Nat → Int32 := fun k => if k < 142 then z k else 0
section MO
variable {cI : ClassId} {q : Nat → Nat} {z z2 hi tx pa ke mr : Nat → Int32} {hs : Int64} {wr : va_W} {k : Nat} {i v : Int32}
theorem zfn_at (h : k < 142) : zfn z k = z k := if_pos h
end MO
def oneP (b : Int32) : Nat → Int32
  | 0 => 0
  | k + 1 => oneP b k + ((b >>> (nI k &&& 31)) &&& 1)
section XB
variable {l : Launch} {D : va_G} {cI cC cM cB cJ : ClassId} {q : Nat → Nat} {z hi tx pa ke mr : Nat → Int32} {hs : Int64} {wr : va_W}
end XB
